section
theorem pk_us {f : Nat → Int32} {k : Nat} {x : Int32} : upd f k x k = x := if_pos rfl
theorem pk_un {f : Nat → Int32} {k j : Nat} {x : Int32} (h : j ≠ k) : upd f k x j = f j := if_neg h
theorem pk_uLs {f : Nat → Int64} {k : Nat} {x : Int64} : vp_updL f k x k = x := if_pos rfl
theorem pk_uLn {f : Nat → Int64} {k j : Nat} {x : Int64} (h : j ≠ k) : vp_updL f k x j = f j := if_neg h
theorem pk_sub {a b : Nat} (h : b ≤ a) : nI a - nI b = nI (a - b) := by
  obtain ⟨c, rfl⟩ : ∃ c, a = c + b := ⟨a - b, by omega⟩
  rw [← nI_add, Int32.add_sub_cancel, Nat.add_sub_cancel]
theorem pk_m1 (n : Nat) : nI (n + 1) + (-1) = nI n := by
  rw [← nI_1, Int32.add_assoc, show (1 : Int32) + (-1) = 0 from rfl, Int32.add_zero]
theorem pk_mul (a b : Nat) : nI a * nI b = nI (a * b) := (Int32.ofNat_mul a b).symm
theorem pk_ix (x : Int32) {n : Nat} (hn : n < 2 ^ 31) : x < 0 ∨ nI n ≤ x ∨ ∃ j : Nat, j < n ∧ x = nI j := by
  by_cases h : x < 0
  · exact Or.inl h
  · obtain ⟨j, hj, rfl⟩ := nI_of h
    by_cases h2 : j < n
    · exact Or.inr (Or.inr ⟨j, h2, rfl⟩)
    · exact Or.inr (Or.inl (nI_le (by omega) hj))
theorem pk_le {x y : Int32} {A B : Prop} (a b : Nat) (f : a ≤ b → A) (g : b < a → B) (hx : x = nI a := by rfl) (hy : y = nI b := by rfl) (ha : a < 2 ^ 31 := by omega) (hb : b < 2 ^ 31 := by omega) : (x ≤ y → A) ∧ (¬ x ≤ y → B) := by
  subst hx hy
  rw [nI_leI ha hb]
  exact ⟨f, fun z => g (by omega)⟩
theorem pk_lt {x y : Int32} {A B : Prop} (a b : Nat) (f : a < b → A) (g : b ≤ a → B) (hx : x = nI a := by rfl) (hy : y = nI b := by rfl) (ha : a < 2 ^ 31 := by omega) (hb : b < 2 ^ 31 := by omega) : (x < y → A) ∧ (¬ x < y → B) := by
  subst hx hy
  rw [nI_ltI ha hb]
  exact ⟨f, fun z => g (by omega)⟩
theorem pk_eq {x y : Int32} {A B : Prop} (a b : Nat) (f : a = b → A) (g : a ≠ b → B) (hx : x = nI a := by rfl) (hy : y = nI b := by rfl) (ha : a < 2 ^ 31 := by omega) (hb : b < 2 ^ 31 := by omega) : (x = y → A) ∧ (¬ x = y → B) := by
  subst hx hy
  rw [nI_eq ha hb]
  exact ⟨f, g⟩
theorem pk_in {x : Int32} (n N : Nat) (h : n < N) (hx : x = nI n := by rfl) (hN : N < 2 ^ 31 := by omega) : vp_in x N := by
  subst hx
  exact vp_in_nI h hN
theorem pk_cl {x : Int32} (n : Nat) (hx : x = nI n := by rfl) (h : n < 2 ^ 31 := by omega) : x.toNatClampNeg = n := by
  subst hx
  exact nI_clamp h
theorem pk_loop {σ : Type} (W : Nat → Nat → σ → Prop) (I : Nat → σ → Prop) (e i0 : Nat) (s : σ) (hi : i0 ≤ e) (h0 : I i0 s) (hx : ∀ n s, I e s → W (n + 1) e s)
    (hs : ∀ n i s, i < e → I i s → (∀ s', I (i + 1) s' → W n (i + 1) s') → W (n + 1) i s) : ∃ n, W n i0 s :=
  ⟨e + 1, loop_i W I e hx hs (e + 1) i0 s hi (by omega) h0⟩
theorem pk_loopD {σ : Type} (W : Nat → Nat → σ → Prop) (I : Nat → σ → Prop) (hx : ∀ n s, I 0 s → W (n + 1) 0 s)
    (hs : ∀ n i s, I (i + 1) s → (∀ s', I i s' → W n i s') → W (n + 1) (i + 1) s) : ∀ (e : Nat) (s : σ), I e s → W (e + 1) e s := by
  intro e
  induction e with
  | zero => exact fun s h => hx 0 s h
  | succ e ih => exact fun s h => hs (e + 1) e s h (fun s' h' => ih s' h')
theorem pk_least (P : Nat → Prop) (h : ∃ k, P k) : ∃ k, P k ∧ ∀ j, j < k → ¬ P j := by
  obtain ⟨k, hk⟩ := h
  induction k using Nat.strongRecOn with
  | ind k ih =>
    by_cases e : ∃ j, j < k ∧ P j
    · obtain ⟨j, hj, pj⟩ := e
      exact ih j hj pj
    · exact ⟨k, hk, fun j hj pj => e ⟨j, hj, pj⟩⟩
theorem sb_m1 {p : Nat} (h : 0 < p) : nI p + (-1) = nI (p - 1) := by
  obtain ⟨q, rfl⟩ : ∃ q, p = q + 1 := ⟨p - 1, by omega⟩
  exact pk_m1 q
theorem pk_sub_toInt {a b : Nat} (ha : a < 2 ^ 30) (hb : b < 2 ^ 30) : (nI a - nI b).toInt = (a : Int) - b := by
  rw [Int32.toInt_sub, nI_toInt (by omega), nI_toInt (by omega)]
  exact Int.bmod_eq_of_le (by omega) (by omega)
theorem pk_sneg {a b : Nat} (hb : b < 2 ^ 30) (h : a < b) : nI a - nI b < 0 := by
  rw [Int32.lt_iff_toInt_lt, pk_sub_toInt (by omega) hb, show (0 : Int32).toInt = 0 from by decide]
  omega
end
section
def tr_c (e : Nat → Nat) (i : Nat) : Nat → Nat
  | 0 => i + 1
  | j + 1 => e (tr_c e i j)
def tr_T (o e : Nat → Nat) : Prop := (∀ i, e i = tr_c e i (o i)) ∧ ∀ i, i < e i
def tr_E (o : Nat → Nat) (n : Nat) : Nat → (Nat → Nat)
  | 0 => fun i => i + 1
  | d + 1 => fun i => if i + (d + 1) = n then tr_c (tr_E o n d) i (o i) else tr_E o n d i
theorem tr_cgt0 {e : Nat → Nat} {i : Nat} (h : ∀ k, i < k → k < e k) : ∀ j, i < tr_c e i j := by
  intro j
  induction j with
  | zero => exact Nat.lt_succ_self i
  | succ j ih => exact Nat.lt_trans ih (h _ ih)
theorem tr_ceq {e e' : Nat → Nat} {i : Nat} (h : ∀ k, i < k → k < e k) (h' : ∀ k, i < k → e' k = e k) : ∀ j, tr_c e' i j = tr_c e i j := by
  intro j
  induction j with
  | zero => rfl
  | succ j ih =>
    show e' (tr_c e' i j) = e (tr_c e i j)
    rw [ih]
    exact h' _ (tr_cgt0 h j)
theorem tr_Eg (o : Nat → Nat) (n : Nat) : ∀ d i, i < tr_E o n d i := by
  intro d
  induction d with
  | zero => exact fun i => Nat.lt_succ_self i
  | succ d ih =>
    intro i
    show i < (if i + (d + 1) = n then tr_c (tr_E o n d) i (o i) else tr_E o n d i)
    split
    · exact tr_cgt0 (fun k _ => ih k) _
    · exact ih i
theorem tr_Es (o : Nat → Nat) (n : Nat) (h0 : ∀ i, n ≤ i → o i = 0) : ∀ d i, n ≤ i + d → tr_E o n d i = tr_c (tr_E o n d) i (o i) := by
  intro d
  induction d with
  | zero =>
    intro i hi
    rw [h0 i (by omega)]
    rfl
  | succ d ih =>
    intro i hi
    have hk : ∀ k, i < k → tr_E o n (d + 1) k = tr_E o n d k := by
      intro k hk
      show (if k + (d + 1) = n then tr_c (tr_E o n d) k (o k) else tr_E o n d k) = _
      rw [if_neg (by omega)]
    rw [tr_ceq (e := tr_E o n d) (fun k _ => tr_Eg o n d k) hk]
    show (if i + (d + 1) = n then tr_c (tr_E o n d) i (o i) else tr_E o n d i) = _
    split
    · rfl
    · exact ih i (by omega)
theorem tr_ex (o : Nat → Nat) (n : Nat) (h0 : ∀ i, n ≤ i → o i = 0) : ∃ e, tr_T o e :=
  ⟨tr_E o n n, fun i => tr_Es o n h0 n i (by omega), tr_Eg o n n⟩
section
variable {o e : Nat → Nat}
theorem tr_cgt (h : tr_T o e) (i j : Nat) : i < tr_c e i j := tr_cgt0 (fun k _ => h.2 k) j
theorem tr_cs (h : tr_T o e) (i j : Nat) : tr_c e i j < tr_c e i (j + 1) := h.2 _
theorem tr_cm (h : tr_T o e) (i a : Nat) : ∀ b, a < b → tr_c e i a < tr_c e i b := by
  intro b
  induction b with
  | zero => intro hb; omega
  | succ b ih =>
    intro hb
    by_cases z : a = b
    · subst z
      exact tr_cs h i a
    · exact Nat.lt_trans (ih (by omega)) (tr_cs h i b)
theorem tr_cme (h : tr_T o e) (i a b : Nat) (hb : a ≤ b) : tr_c e i a ≤ tr_c e i b := by
  by_cases z : a = b
  · rw [z]; exact Nat.le_refl _
  · exact Nat.le_of_lt (tr_cm h i a b (by omega))
theorem tr_find (i k : Nat) (h0 : i < k) : ∀ m, k < tr_c e i m → ∃ j, j < m ∧ tr_c e i j ≤ k ∧ k < tr_c e i (j + 1) := by
  intro m
  induction m with
  | zero => intro hm; exact absurd hm (by show ¬ k < i + 1; omega)
  | succ m ih =>
    intro hm
    by_cases z : k < tr_c e i m
    · obtain ⟨j, hj, a, b⟩ := ih z
      exact ⟨j, by omega, a, b⟩
    · exact ⟨m, by omega, by omega, hm⟩
theorem tr_cin (h : tr_T o e) {p j : Nat} (hj : j < o p) : p < tr_c e p j ∧ tr_c e p j < e p := by
  refine ⟨tr_cgt h p j, ?_⟩
  rw [h.1 p]
  exact tr_cm h p j _ hj
theorem tr_nest (h : tr_T o e) : ∀ d i k, k - i ≤ d → i ≤ k → k < e i → e k ≤ e i := by
  intro d
  induction d with
  | zero =>
    intro i k hd hi hk
    have : k = i := by omega
    subst this
    exact Nat.le_refl _
  | succ d ih =>
    intro i k hd hi hk
    by_cases z : k = i
    · subst z; exact Nat.le_refl _
    · have hk2 := hk
      rw [h.1 i] at hk2
      obtain ⟨j, hj, a, b⟩ := tr_find i k (by omega) _ hk2
      have g := tr_cgt h i j
      have r := ih (tr_c e i j) k (by omega) a b
      have r2 : tr_c e i (j + 1) ≤ tr_c e i (o i) := tr_cme h i _ _ hj
      have r3 : e (tr_c e i j) = tr_c e i (j + 1) := rfl
      rw [h.1 i]
      omega
theorem tr_par (h : tr_T o e) : ∀ d i k, k - i ≤ d → i < k → k < e i → ∃ p j, i ≤ p ∧ j < o p ∧ tr_c e p j = k := by
  intro d
  induction d with
  | zero => intro i k hd hi hk; omega
  | succ d ih =>
    intro i k hd hi hk
    have hk2 := hk
    rw [h.1 i] at hk2
    obtain ⟨j, hj, a, b⟩ := tr_find i k hi _ hk2
    by_cases z : tr_c e i j = k
    · exact ⟨i, j, Nat.le_refl _, hj, z⟩
    · have g := tr_cgt h i j
      obtain ⟨p, j', hp, hj', r⟩ := ih (tr_c e i j) k (by omega) (by omega) b
      exact ⟨p, j', by omega, hj', r⟩
theorem tr_btw (h : tr_T o e) {p j q : Nat} (hp : p < q) (hq : q < tr_c e p j) : e q ≤ tr_c e p j := by
  obtain ⟨j1, hj1, a, b⟩ := tr_find p q hp j hq
  have r := tr_nest h _ (tr_c e p j1) q (Nat.le_refl _) a b
  have r2 : tr_c e p (j1 + 1) ≤ tr_c e p j := tr_cme h p _ _ hj1
  exact Nat.le_trans r r2
theorem tr_cinj (h : tr_T o e) {p j j' : Nat} (he : tr_c e p j = tr_c e p j') : j = j' := by
  by_cases a : j < j'
  · have := tr_cm h p j j' a; omega
  · by_cases b : j' < j
    · have := tr_cm h p j' j b; omega
    · omega
theorem tr_uniq (h : tr_T o e) {p j p' j' : Nat} (hj : j < o p) (hj' : j' < o p') (he : tr_c e p j = tr_c e p' j') : p = p' ∧ j = j' := by
  have a := tr_cin h hj
  have b := tr_cin h hj'
  have hp : p = p' := by
    by_cases z : p < p'
    · have := tr_btw h (j := j) z (by omega); omega
    · by_cases z2 : p' < p
      · have := tr_btw h (j := j') z2 (by omega); omega
      · omega
  subst hp
  exact ⟨rfl, tr_cinj h he⟩
theorem tr_leaf (h : tr_T o e) {i : Nat} (ho : o i = 0) : e i = i + 1 := by rw [h.1 i, ho]; rfl
end
def tr_dn (e : Nat → Nat) (k : Nat) : Nat → Nat
  | 0 => 0
  | p + 1 => if k < e p then p else tr_dn e k p
def tr_pa (e : Nat → Nat) (k : Nat) : Nat := tr_dn e k k
def tr_ix (e : Nat → Nat) (k : Nat) : Nat := if tr_c e (tr_pa e k) 0 = k then 0 else if tr_c e (tr_pa e k) 1 = k then 1 else 2
theorem tr_dn_eq (e : Nat → Nat) (k p : Nat) (hp : k < e p) : ∀ m, p < m → (∀ q, p < q → q < m → ¬ k < e q) → tr_dn e k m = p := by
  intro m
  induction m with
  | zero => intro hm; omega
  | succ m ih =>
    intro hm hq
    show (if k < e m then m else tr_dn e k m) = p
    by_cases z : p = m
    · subst z
      rw [if_pos hp]
    · rw [if_neg (hq m (by omega) (by omega))]
      exact ih (by omega) (fun q a b => hq q a (by omega))
section
variable {o e : Nat → Nat}
theorem tr_pac (h : tr_T o e) {p j : Nat} (hj : j < o p) : tr_pa e (tr_c e p j) = p := by
  have a := tr_cin h hj
  refine tr_dn_eq e _ p a.2 _ a.1 ?_
  intro q h1 h2 h3
  have := tr_btw h (j := j) h1 h2
  omega
theorem tr_ixc (h : tr_T o e) {p j : Nat} (hj : j < o p) (h3 : o p ≤ 3) : tr_ix e (tr_c e p j) = j := by
  unfold tr_ix
  rw [tr_pac h hj]
  match j, hj with
  | 0, _ => rw [if_pos rfl]
  | 1, _ => rw [if_neg (fun z => absurd (tr_cinj h z) (by decide)), if_pos rfl]
  | 2, _ => rw [if_neg (fun z => absurd (tr_cinj h z) (by decide)), if_neg (fun z => absurd (tr_cinj h z) (by decide))]
  | j + 3, hj => omega
theorem tr_pk (h : tr_T o e) (h3 : ∀ i, o i ≤ 3) {k : Nat} (h0 : 0 < k) (hk : k < e 0) : tr_pa e k < k ∧ tr_ix e k < o (tr_pa e k) ∧ tr_c e (tr_pa e k) (tr_ix e k) = k := by
  obtain ⟨p, j, _, hj, hc⟩ := tr_par h _ 0 k (Nat.le_refl _) h0 hk
  subst hc
  rw [tr_pac h hj, tr_ixc h hj (h3 p)]
  exact ⟨(tr_cin h hj).1, hj, rfl⟩
end
def tr_R {α : Type} (z : α) (f : Nat → Nat → α → α) (pa : Nat → Nat) : Nat → Nat → α
  | 0, _ => z
  | m + 1, k => if k = 0 then z else f (pa k) k (tr_R z f pa m (pa k))
def tr_r {α : Type} (z : α) (f : Nat → Nat → α → α) (pa : Nat → Nat) (k : Nat) : α := tr_R z f pa k k
theorem tr_Rm {α : Type} (z : α) (f : Nat → Nat → α → α) (pa : Nat → Nat) : ∀ b k, (∀ q, 0 < q → q ≤ b → pa q < q) → k ≤ b → ∀ m m', k ≤ m → k ≤ m' → tr_R z f pa m k = tr_R z f pa m' k := by
  intro b k hp
  induction k using Nat.strongRecOn with
  | ind k ih =>
    intro hb m m' hm hm'
    by_cases z0 : k = 0
    · subst z0
      cases m <;> cases m' <;> simp [tr_R]
    · obtain ⟨m, rfl⟩ : ∃ x, m = x + 1 := ⟨m - 1, by omega⟩
      obtain ⟨m', rfl⟩ : ∃ x, m' = x + 1 := ⟨m' - 1, by omega⟩
      have hl := hp k (by omega) hb
      show (if k = 0 then z else f (pa k) k (tr_R z f pa m (pa k))) = (if k = 0 then z else f (pa k) k (tr_R z f pa m' (pa k)))
      rw [if_neg z0, if_neg z0, ih (pa k) hl (by omega) m m' (by omega) (by omega)]
theorem tr_r0 {α : Type} (z : α) (f : Nat → Nat → α → α) (pa : Nat → Nat) : tr_r z f pa 0 = z := rfl
theorem tr_rs {α : Type} (z : α) (f : Nat → Nat → α → α) (pa : Nat → Nat) (k : Nat) (hp : ∀ q, 0 < q → q ≤ k → pa q < q) (h0 : 0 < k) : tr_r z f pa k = f (pa k) k (tr_r z f pa (pa k)) := by
  obtain ⟨m, rfl⟩ : ∃ x, k = x + 1 := ⟨k - 1, by omega⟩
  have hl := hp (m + 1) (by omega) (Nat.le_refl _)
  show (if m + 1 = 0 then z else f (pa (m + 1)) (m + 1) (tr_R z f pa m (pa (m + 1)))) = _
  rw [if_neg (by omega)]
  congr 1
  exact tr_Rm z f pa (m + 1) _ hp (by omega) _ _ (by omega) (Nat.le_refl _)
def tr_s (o : Nat → Nat) : Nat → Int
  | 0 => 1
  | i + 1 => tr_s o i + (o i : Int) - 1
theorem tr_sum {o e : Nat → Nat} (h : tr_T o e) : ∀ d u, e u - u ≤ d → tr_s o (e u) = tr_s o u - 1 ∧ ∀ i, u ≤ i → i < e u → tr_s o u ≤ tr_s o i := by
  intro d
  induction d with
  | zero => intro u hd; have := h.2 u; omega
  | succ d ih =>
    intro u hd
    have inner : ∀ j, j ≤ o u → tr_s o (tr_c e u j) = tr_s o u + (o u : Int) - 1 - (j : Int) ∧ ∀ i, u ≤ i → i < tr_c e u j → tr_s o u ≤ tr_s o i := by
      intro j
      induction j with
      | zero =>
        intro _
        refine ⟨by show tr_s o u + (o u : Int) - 1 = _; omega, ?_⟩
        intro i h1 h2
        have : i = u := by
          have h3 : i < u + 1 := h2
          omega
        subst this
        exact Int.le_refl _
      | succ j ihj =>
        intro hj
        obtain ⟨a, b⟩ := ihj (by omega)
        have hc := tr_cin h (show j < o u by omega)
        have hn := tr_nest h _ u (tr_c e u j) (Nat.le_refl _) (by omega) hc.2
        obtain ⟨a2, b2⟩ := ih (tr_c e u j) (by omega)
        have hs : tr_c e u (j + 1) = e (tr_c e u j) := rfl
        refine ⟨by rw [hs, a2, a]; omega, ?_⟩
        intro i h1 h2
        by_cases z : i < tr_c e u j
        · exact b i h1 z
        · have := b2 i (by omega) (by rw [← hs]; exact h2)
          omega
    obtain ⟨a, b⟩ := inner (o u) (Nat.le_refl _)
    rw [← h.1 u] at a b
    exact ⟨by omega, b⟩
theorem tr_sum0 {o e : Nat → Nat} (h : tr_T o e) : tr_s o (e 0) = 0 ∧ ∀ i, i < e 0 → 1 ≤ tr_s o i := by
  obtain ⟨a, b⟩ := tr_sum h _ 0 (Nat.le_refl _)
  have z : tr_s o 0 = 1 := rfl
  rw [z] at a b
  exact ⟨by omega, fun i hi => b i (by omega) hi⟩
end
section
def ca_in (z : Int) : Prop := -9223372036854775808 ≤ z ∧ z < 9223372036854775808
theorem ca_rng (a : Int64) : ca_in a.toInt := ⟨by have := Int64.le_toInt a; omega, by have := Int64.toInt_lt a; omega⟩
theorem ca_0 : (0 : Int64).toInt = 0 := by decide
theorem ca_m1 : (-1 : Int64).toInt = -1 := by decide
theorem ca_bm (z : Int) : ∃ q : Int, z.bmod (2 ^ 64) = z - 18446744073709551616 * q ∧ ca_in (z.bmod (2 ^ 64)) := by
  have e : (2 : Nat) ^ 64 = 18446744073709551616 := by decide
  rw [e]
  have h1 := Int.bmod_add_bdiv z 18446744073709551616
  have h2 := Int.bmod_lt (x := z) (m := 18446744073709551616) (by decide)
  have h3 := Int.le_bmod (x := z) (m := 18446744073709551616) (by decide)
  refine ⟨z.bdiv 18446744073709551616, by omega, ?_, ?_⟩
  · have : ((18446744073709551616 : Nat) : Int) = 18446744073709551616 := rfl
    omega
  · have : ((18446744073709551616 : Nat) : Int) = 18446744073709551616 := rfl
    omega
theorem ca_bmi {z : Int} (h : ca_in z) : z.bmod (2 ^ 64) = z := by
  obtain ⟨q, e, h2⟩ := ca_bm z
  unfold ca_in at h h2
  rw [e] at h2 ⊢
  have : q = 0 := by omega
  rw [this]
  omega
theorem ca_neg (a : Int64) : a < 0 ↔ a.toBitVec.msb = true := by
  rw [Int64.lt_iff_toInt_lt, BitVec.msb_eq_toInt, ca_0]
  exact decide_eq_true_iff.symm
theorem ca_and (a b : Int64) : (a &&& b) < 0 ↔ (a < 0 ∧ b < 0) := by
  rw [ca_neg, ca_neg, ca_neg, Int64.toBitVec_and, BitVec.msb_and]
  cases a.toBitVec.msb <;> cases b.toBitVec.msb <;> simp
theorem ca_xor (a b : Int64) : (a ^^^ b) < 0 ↔ ¬ (a < 0 ↔ b < 0) := by
  rw [ca_neg, ca_neg, ca_neg, Int64.toBitVec_xor, BitVec.msb_xor]
  cases a.toBitVec.msb <;> cases b.toBitVec.msb <;> simp
theorem ca_addX (x y : Int64) : ((x ^^^ (x + y)) &&& (y ^^^ (x + y))) < 0 ↔ ¬ ca_in (x.toInt + y.toInt) := by
  rw [ca_and, ca_xor, ca_xor]
  simp only [Int64.lt_iff_toInt_lt, ca_0, Int64.toInt_add]
  have hx := ca_rng x
  have hy := ca_rng y
  obtain ⟨q, e, h2⟩ := ca_bm (x.toInt + y.toInt)
  rw [e] at h2 ⊢
  unfold ca_in at *
  omega
theorem ca_addY1 (x y : Int64) (h : 0 < y) : x + y < x ↔ ¬ ca_in (x.toInt + y.toInt) := by
  rw [Int64.lt_iff_toInt_lt] at *
  rw [ca_0] at h
  rw [Int64.toInt_add]
  have hx := ca_rng x
  have hy := ca_rng y
  obtain ⟨q, e, h2⟩ := ca_bm (x.toInt + y.toInt)
  rw [e] at h2 ⊢
  unfold ca_in at *
  omega
theorem ca_addY2 (x y : Int64) (h : ¬ 0 < y) : x < x + y ↔ ¬ ca_in (x.toInt + y.toInt) := by
  rw [Int64.lt_iff_toInt_lt] at *
  rw [ca_0] at h
  rw [Int64.toInt_add]
  have hx := ca_rng x
  have hy := ca_rng y
  obtain ⟨q, e, h2⟩ := ca_bm (x.toInt + y.toInt)
  rw [e] at h2 ⊢
  unfold ca_in at *
  omega
theorem ca_subX (x y : Int64) : ((x ^^^ y) &&& (x ^^^ (x - y))) < 0 ↔ ¬ ca_in (x.toInt - y.toInt) := by
  rw [ca_and, ca_xor, ca_xor]
  simp only [Int64.lt_iff_toInt_lt, ca_0, Int64.toInt_sub]
  have hx := ca_rng x
  have hy := ca_rng y
  obtain ⟨q, e, h2⟩ := ca_bm (x.toInt - y.toInt)
  rw [e] at h2 ⊢
  unfold ca_in at *
  omega
theorem ca_subY1 (x y : Int64) (h : 0 < y) : x < x - y ↔ ¬ ca_in (x.toInt - y.toInt) := by
  rw [Int64.lt_iff_toInt_lt] at *
  rw [ca_0] at h
  rw [Int64.toInt_sub]
  have hx := ca_rng x
  have hy := ca_rng y
  obtain ⟨q, e, h2⟩ := ca_bm (x.toInt - y.toInt)
  rw [e] at h2 ⊢
  unfold ca_in at *
  omega
theorem ca_subY2 (x y : Int64) (h : ¬ 0 < y) : x - y < x ↔ ¬ ca_in (x.toInt - y.toInt) := by
  rw [Int64.lt_iff_toInt_lt] at *
  rw [ca_0] at h
  rw [Int64.toInt_sub]
  have hx := ca_rng x
  have hy := ca_rng y
  obtain ⟨q, e, h2⟩ := ca_bm (x.toInt - y.toInt)
  rw [e] at h2 ⊢
  unfold ca_in at *
  omega
theorem ca_tdr {r b : Int} (hr : ca_in r) (h1 : b ≠ -1) : ca_in (r.tdiv b) := by
  have e : (r.tdiv b).natAbs = r.natAbs / b.natAbs := Int.natAbs_tdiv r b
  unfold ca_in at *
  by_cases z : b = 1
  · subst z
    rw [Int.tdiv_one]
    exact hr
  · by_cases z0 : b = 0
    · subst z0
      rw [Int.tdiv_zero]
      omega
    · have hb : 2 ≤ b.natAbs := by omega
      have h3 : r.natAbs / b.natAbs ≤ r.natAbs / 2 := Nat.div_le_div_left hb (by decide)
      omega
theorem ca_mulI {a b r q : Int} (hb : ca_in b) (h0 : b ≠ 0) (hr : ca_in r) (e : r = a * b - 18446744073709551616 * q) : r.tdiv b ≠ a ↔ ¬ ca_in (a * b) := by
  constructor
  · intro h hin
    apply h
    have : r = a * b := by
      unfold ca_in at *
      generalize a * b = p at *
      omega
    rw [this]
    exact Int.mul_tdiv_cancel a h0
  · intro h heq
    apply h
    have h1 := Int.mul_tdiv_add_tmod r b
    have h2 : (r.tmod b).natAbs < b.natAbs := by
      rw [Int.natAbs_tmod]
      exact Nat.mod_lt _ (by omega)
    rw [heq, Int.mul_comm b a] at h1
    have hbn : b.natAbs ≤ 9223372036854775808 := by unfold ca_in at hb; omega
    generalize r.tmod b = t at *
    generalize a * b = p at *
    unfold ca_in at *
    have : q = 0 := by omega
    omega
theorem ca_div (x y : Int64) (h : y ≠ -1) : (x / y).toInt = x.toInt.tdiv y.toInt := by
  rw [Int64.toInt_div]
  refine ca_bmi (ca_tdr (ca_rng x) ?_)
  intro z
  apply h
  apply Int64.toInt_inj.mp
  rw [z, ca_m1]
theorem ca_mulX (x y : Int64) (h0 : y ≠ 0) (h1 : y ≠ -1) : (x * y) / y ≠ x ↔ ¬ ca_in (x.toInt * y.toInt) := by
  show ¬ ((x * y) / y = x) ↔ _
  rw [← Int64.toInt_inj, ca_div _ _ h1, Int64.toInt_mul]
  obtain ⟨q, e, h2⟩ := ca_bm (x.toInt * y.toInt)
  refine ca_mulI (ca_rng y) ?_ h2 e
  intro z
  apply h0
  apply Int64.toInt_inj.mp
  rw [z, ca_0]
theorem ca_mulY (x y : Int64) (h0 : x ≠ 0) (h1 : x ≠ -1) : (x * y) / x ≠ y ↔ ¬ ca_in (x.toInt * y.toInt) := by
  rw [Int64.mul_comm, Int.mul_comm]
  exact ca_mulX y x h0 h1
theorem ca_mulXm (x : Int64) : (x < 0 ∧ x * (-1) < 0) ↔ ¬ ca_in (x.toInt * (-1 : Int64).toInt) := by
  simp only [Int64.lt_iff_toInt_lt, ca_0, Int64.toInt_mul, ca_m1]
  have hx := ca_rng x
  obtain ⟨q, e, h2⟩ := ca_bm (x.toInt * -1)
  rw [e] at h2 ⊢
  unfold ca_in at *
  omega
theorem ca_mulYm (y : Int64) : (y = -1 * y ∧ y < 0) ↔ ¬ ca_in ((-1 : Int64).toInt * y.toInt) := by
  rw [← Int64.toInt_inj]
  simp only [Int64.lt_iff_toInt_lt, ca_0, Int64.toInt_mul, ca_m1]
  have hy := ca_rng y
  obtain ⟨q, e, h2⟩ := ca_bm (-1 * y.toInt)
  rw [e] at h2 ⊢
  unfold ca_in at *
  omega
theorem ca_divm (x : Int64) : (x < 0 ∧ x / (-1) < 0) ↔ (x < 0 ∧ -x = x) := by
  rw [← Int64.toInt_inj, Int64.lt_iff_toInt_lt, Int64.lt_iff_toInt_lt, ca_0, Int64.toInt_div, ca_m1, Int64.toInt_neg]
  have hx := ca_rng x
  have e0 : x.toInt.tdiv (-1) = - x.toInt := by rw [Int.tdiv_neg, Int.tdiv_one]
  rw [e0]
  obtain ⟨q, e, h2⟩ := ca_bm (- x.toInt)
  rw [e] at h2 ⊢
  unfold ca_in at *
  omega
end
section
abbrev gw_T : Type := Nat × (Nat → Int32) × (Nat → Nat) × (Nat → Nat) × (Nat → List Nat) × (Nat → Bool) × (Nat → Int32) × (Nat → Int32) × (Nat → Int32) × (Nat → Int32)
def gw_n (w : gw_T) : Nat := w.1
def gw_K (w : gw_T) : Nat → Int32 := w.2.1
def gw_o (w : gw_T) : Nat → Nat := w.2.2.1
def gw_e (w : gw_T) : Nat → Nat := w.2.2.2.1
def gw_sc (w : gw_T) : Nat → List Nat := w.2.2.2.2.1
def gw_il (w : gw_T) : Nat → Bool := w.2.2.2.2.2.1
def gw_ow (w : gw_T) : Nat → Int32 := w.2.2.2.2.2.2.1
def gw_mn (w : gw_T) : Nat → Int32 := w.2.2.2.2.2.2.2.1
def gw_gn (w : gw_T) : Nat → Int32 := w.2.2.2.2.2.2.2.2.1
def gw_v (w : gw_T) : Nat → Int32 := w.2.2.2.2.2.2.2.2.2
def gw_c (w : gw_T) (i j : Nat) : Nat := tr_c (gw_e w) i j
def gw_op (k : Int32) : Nat :=
  if k = 13 then 3 else if k = 0 ∨ k = 1 ∨ k = 2 ∨ k = 16 ∨ k = 17 then 0
  else if k = 3 ∨ k = 5 ∨ k = 18 ∨ k = 19 ∨ k = 22 ∨ k = 24 ∨ k = 25 ∨ k = 26 then 1 else 2
abbrev gw_bd (k : Int32) (j : Nat) : Prop := k = 5 ∨ (k = 4 ∨ k = 20) ∧ j = 1
def gw_S (w : gw_T) : Prop :=
  tr_T (gw_o w) (gw_e w) ∧ gw_e w 0 = gw_n w ∧ gw_n w ≤ 48 ∧
  (∀ i, i < gw_n w → gw_o w i = gw_op (gw_K w i)) ∧
  (∀ i, i < gw_n w → ∃ k, k < 27 ∧ gw_K w i = nI k) ∧
  (gw_sc w 0 = [] ∧ gw_il w 0 = false ∧ gw_ow w 0 = -1) ∧
  (∀ p j, p < gw_n w → j < gw_o w p →
    (gw_bd (gw_K w p) j → gw_sc w (gw_c w p j) = p :: gw_sc w p) ∧ (¬ gw_bd (gw_K w p) j → gw_sc w (gw_c w p j) = gw_sc w p) ∧
    (gw_K w p = 5 → gw_il w (gw_c w p j) = false ∧ gw_ow w (gw_c w p j) = nI p) ∧
    (gw_K w p ≠ 5 → gw_ow w (gw_c w p j) = gw_ow w p ∧ (gw_il w (gw_c w p j) = true → (gw_K w p = 14 ∧ j = 1) ∨ gw_il w p = true))) ∧
  (∀ i, i < gw_n w → gw_K w i = 2 ∨ gw_K w i = 3 → ∃ b, b ∈ gw_sc w i ∧ gw_mn w i = nI b) ∧
  (∀ i, i < gw_n w → gw_K w i = 16 ∨ gw_K w i = 17 → gw_il w i = true) ∧
  (∀ i, i < gw_n w → gw_K w i = 22 → ∃ f, f < gw_n w ∧ gw_ow w i = nI f ∧ gw_gn w f = 1) ∧
  (∀ i, i < gw_n w → gw_gn w i = 0 ∨ gw_gn w i = 1) ∧
  (∀ i, i < gw_n w → (gw_sc w i).length ≤ i ∧ ∀ b, b ∈ gw_sc w i → b < i)
abbrev gf_T : Type := Nat × Nat × Int32 × Int32 × Int32 × Int64
abbrev gv_T : Type := (Nat → Int32) × (Nat → Int32) × (Nat → Int32) × (Nat → Int64) × Nat
abbrev gp_T : Type := (Nat → Int32) × (Nat → Int32) × Nat
abbrev gg_T : Type := (Nat → Int32) × (Nat → Int32) × (Nat → Int32) × Nat
abbrev gm_T : Type := Bool × Int32 × Int32 × Int64
def gk_hv (h : Int32) : Prop := h = 0 ∨ h = 1 ∨ h = 4
def gk_HW (h : Int32) : Prop := h = 0 ∨ h = 1 ∨ h = 2 ∨ h = 3 ∨ h = 4 ∨ h = 5
def gk_VV (fc gc : Nat) (s : Int32) (x : Int64) : Prop := (s = 0 ∨ s = 1 ∨ s = 2) ∨ (s = 3 ∧ ∃ i, i < fc ∧ x = lN i) ∨ (s = 4 ∧ ∃ i, i < gc ∧ x = lN i)
def gk_CH (V : gv_T) : List Nat → Int32 → Prop
  | [], c => c = -1
  | b :: l, c => ∃ i, i < V.2.2.2.2 ∧ c = nI i ∧ V.1 i = nI b ∧ gk_CH V l (V.2.1 i)
def gk_eag (k : Int32) : Prop := k = 6 ∨ k = 7 ∨ k = 8 ∨ k = 9 ∨ k = 10 ∨ k = 11 ∨ k = 12 ∨ k = 23
def gk_KP (w : gw_T) (fc gc : Nat) (cl : Prop) (f : gf_T) : Prop :=
  gk_HW f.2.2.2.1 ∧ (gk_hv f.2.2.2.1 → gk_VV fc gc f.2.2.2.2.1 f.2.2.2.2.2) ∧
  (f.2.2.2.1 = 2 ∨ f.2.2.2.1 = 3 → gw_il w f.1 = true) ∧ (f.2.2.2.1 = 5 → cl) ∧ (gw_K w f.1 ≠ 21 → f.2.2.2.1 = 0)
def gk_FO (w : gw_T) (V : gv_T) (fc gc : Nat) (cl : Prop) (f : gf_T) : Prop :=
  f.1 < gw_n w ∧ gk_CH V (gw_sc w f.1) f.2.2.1 ∧ f.2.1 ≤ 3 ∧
  (f.2.1 ≠ 0 → 0 < gw_o w f.1 ∧ gw_K w f.1 ≠ 5) ∧
  (f.2.1 = 2 → gw_K w f.1 = 14 ∨ gw_K w f.1 = 21 ∨ gk_eag (gw_K w f.1)) ∧
  (f.2.1 = 3 → gw_K w f.1 ≠ 14 ∧ gw_K w f.1 ≠ 21) ∧
  (f.2.1 = 2 → gw_K w f.1 ≠ 14 → gk_KP w fc gc cl f)
def gk_PT (w : gw_T) (r : Nat) : List gf_T → Nat → Prop
  | [], t => t = r
  | g :: L, t => g.2.1 ≠ 0 ∧ (∃ j, j < gw_o w g.1 ∧ t = gw_c w g.1 j ∧ (g.2.1 = 1 → j = 0) ∧ (g.2.1 = 2 → j = 1)) ∧ gk_PT w r L g.1
def gk_SL (w : gw_T) (V : gv_T) (fc gc r : Nat) (cl : Prop) (L : List gf_T) : Prop :=
  (∀ f L', L = f :: L' → gk_PT w r L' f.1) ∧ ∀ f, f ∈ L → gk_FO w V fc gc cl f
def gk_RT (w : gw_T) (s r : Nat) : Prop :=
  (s = 0 ∧ r = 0) ∨ ∃ f, f < gw_n w ∧ gw_K w f = 5 ∧ r = f + 1 ∧ (s < 8 → gw_gn w f = 0) ∧ (8 ≤ s → gw_gn w f = 1)
def gk_cl (G : gg_T) (s : Nat) : Prop := 8 ≤ s ∧ G.2.1 (s - 8) = 1
def gk_lv (A : List Nat) (gc s : Nat) : Prop := s ∈ A ∨ (8 ≤ s ∧ s < 8 + gc)
def gk_AO (gc : Nat) : List Nat → Prop
  | [] => True
  | s :: A => ((s = A.length) ∨ (8 ≤ s ∧ s < 8 + gc ∧ ¬ s ∈ A ∧ A ≠ [])) ∧ gk_AO gc A
def gk_yl : List gf_T → Nat
  | [] => 0
  | f :: L => if f.2.1 = 1 ∨ f.2.1 = 2 then gk_yl L + 1 else gk_yl L
def gk_wt : List gf_T → Nat
  | [] => 0
  | f :: L => gk_wt L + (if f.2.1 = 1 ∨ f.2.1 = 2 then 3 else if f.2.1 = 3 then 1 else 0)
def gk_sm (f : List gf_T → Nat) (S : Nat → List gf_T) : Nat → Nat
  | 0 => 0
  | k + 1 => gk_sm f S k + f (S k)
def gk_su (S : Nat → List gf_T) (a : Nat) (L : List gf_T) : Nat → List gf_T := fun s => if s = a then L else S s
def gk_BK (w : gw_T) (L : List gf_T) (h : Int32) : Prop := h = 2 ∨ h = 3 → ∃ g L', L = g :: L' ∧ ((gw_K w g.1 = 14 ∧ g.2.1 = 2) ∨ gw_il w g.1 = true)
def gk_NH (L : List gf_T) : Prop := ∀ f, f ∈ L → f.2.1 ≠ 0
def gk_MD (w : gw_T) (fc gc : Nat) (cl : Prop) (M : gm_T) (L : List gf_T) : Prop :=
  (M.1 = true → ∃ f L', L = f :: L' ∧ f.2.1 = 0) ∧
  (M.1 = false → gk_NH L ∧ gk_HW M.2.1 ∧ (gk_hv M.2.1 → gk_VV fc gc M.2.2.1 M.2.2.2) ∧ gk_BK w L M.2.1 ∧ (M.2.1 = 5 → cl))
def gk_GN (w : gw_T) (S : Nat → List gf_T) (A : List Nat) (G : gg_T) (g : Nat) : Prop :=
  (G.1 g = 0 ∨ G.1 g = 1 ∨ G.1 g = 2 ∨ G.1 g = 3) ∧ (G.2.1 g = 0 ∨ G.2.1 g = 1) ∧ (G.1 g = 2 ↔ 8 + g ∈ A) ∧
  (G.1 g = 0 → G.2.1 g = 0 ∧ ∃ f, S (8 + g) = [f] ∧ f.2.1 = 0) ∧
  (G.1 g = 1 → G.2.1 g = 0 ∧ ∃ f L, S (8 + g) = f :: L ∧ f.2.1 = 3 ∧ gk_NH L ∧ G.2.2.1 g = nI f.1)
def gk_VF (w : gw_T) (V : gv_T) (F : gp_T) (gc : Nat) : Prop :=
  (∀ i, i < V.2.2.2.2 → gk_VV F.2.2 gc (V.2.2.1 i) (V.2.2.2.1 i)) ∧
  (∀ i, i < F.2.2 → ∃ t, t < gw_n w ∧ F.1 i = nI t ∧ gw_K w t = 5 ∧ gk_CH V (gw_sc w t) (F.2.1 i))
def gk_I (w : gw_T) (M : gm_T) (S : Nat → List gf_T) (A : List Nat) (V : gv_T) (F : gp_T) (G : gg_T) (nc sp : Nat) : Prop :=
  (∀ s, s < 16 → gk_lv A G.2.2.2 s → ∃ r, gk_RT w s r ∧ gk_SL w V F.2.2 G.2.2.2 r (gk_cl G s) (S s)) ∧
  (gk_AO G.2.2.2 A ∧ A.length ≤ 8) ∧ (∀ g, g < G.2.2.2 → gk_GN w S A G g) ∧ gk_VF w V F G.2.2.2 ∧
  (V.2.2.2.2 + F.2.2 + nc + gk_sm gk_yl S 16 ≤ sp ∧ sp ≤ 600 ∧ G.2.2.2 ≤ 8) ∧
  (∀ a A', A = a :: A' → (∀ s, s ∈ A' → gk_NH (S s)) ∧ gk_MD w F.2.2 G.2.2.2 (gk_cl G a) M (S a)) ∧
  (A = [] → M.1 = false ∧ (M.2.1 = 0 ∨ M.2.1 = 1) ∧ gk_VV F.2.2 G.2.2.2 M.2.2.1 M.2.2.2)
def gk_mu (M : gm_T) (S : Nat → List gf_T) (A : List Nat) (sp : Nat) : Nat := 4 * (600 - sp) + gk_sm gk_wt S 16 + A.length + (if M.1 = true then 0 else 1)
theorem gk_sus {S : Nat → List gf_T} {a : Nat} {L : List gf_T} : gk_su S a L a = L := if_pos rfl
theorem gk_sun {S : Nat → List gf_T} {a s : Nat} {L : List gf_T} (h : s ≠ a) : gk_su S a L s = S s := if_neg h
theorem gk_smn (f : List gf_T → Nat) (S : Nat → List gf_T) (a : Nat) (L : List gf_T) : ∀ k, k ≤ a → gk_sm f (gk_su S a L) k = gk_sm f S k := by
  intro k
  induction k with
  | zero => intro _; rfl
  | succ k ih =>
    intro h
    show gk_sm f (gk_su S a L) k + f (gk_su S a L k) = gk_sm f S k + f (S k)
    rw [ih (by omega), gk_sun (by omega)]
theorem gk_sms (f : List gf_T → Nat) (S : Nat → List gf_T) (a : Nat) (L : List gf_T) : ∀ k, a < k → gk_sm f (gk_su S a L) k + f (S a) = gk_sm f S k + f L := by
  intro k
  induction k with
  | zero => intro h; omega
  | succ k ih =>
    intro h
    show gk_sm f (gk_su S a L) k + f (gk_su S a L k) + f (S a) = gk_sm f S k + f (S k) + f L
    by_cases z : a = k
    · subst z
      rw [gk_smn f S a L a (Nat.le_refl _), gk_sus]
      omega
    · have := ih (by omega)
      rw [gk_sun (by omega)]
      omega
def gk_X (V V' : gv_T) : Prop := V.2.2.2.2 ≤ V'.2.2.2.2 ∧ ∀ i, i < V.2.2.2.2 → V'.1 i = V.1 i ∧ V'.2.1 i = V.2.1 i
theorem gk_Xr (V : gv_T) : gk_X V V := ⟨Nat.le_refl _, fun _ _ => ⟨rfl, rfl⟩⟩
theorem gk_CHm {V V' : gv_T} (h : gk_X V V') : ∀ l c, gk_CH V l c → gk_CH V' l c := by
  intro l
  induction l with
  | nil => exact fun c hc => hc
  | cons b l ih =>
    intro c hc
    obtain ⟨i, hi, hci, hb, hr⟩ := hc
    refine ⟨i, by have := h.1; omega, hci, ?_, ?_⟩
    · rw [(h.2 i hi).1]; exact hb
    · rw [(h.2 i hi).2]; exact ih _ hr
theorem gk_VVm {fc gc fc' gc' : Nat} {s : Int32} {x : Int64} (h1 : fc ≤ fc') (h2 : gc ≤ gc') (h : gk_VV fc gc s x) : gk_VV fc' gc' s x := by
  rcases h with h | ⟨h, i, hi, e⟩ | ⟨h, i, hi, e⟩
  · exact Or.inl h
  · exact Or.inr (Or.inl ⟨h, i, by omega, e⟩)
  · exact Or.inr (Or.inr ⟨h, i, by omega, e⟩)
theorem gk_KPm {w : gw_T} {fc gc fc' gc' : Nat} {cl cl' : Prop} {f : gf_T} (h1 : fc ≤ fc') (h2 : gc ≤ gc') (hc : cl → cl') (h : gk_KP w fc gc cl f) : gk_KP w fc' gc' cl' f :=
  ⟨h.1, fun z => gk_VVm h1 h2 (h.2.1 z), h.2.2.1, fun z => hc (h.2.2.2.1 z), h.2.2.2.2⟩
theorem gk_FOm {w : gw_T} {V V' : gv_T} {fc gc fc' gc' : Nat} {cl cl' : Prop} {f : gf_T} (hV : gk_X V V') (h1 : fc ≤ fc') (h2 : gc ≤ gc') (hc : cl → cl') (h : gk_FO w V fc gc cl f) : gk_FO w V' fc' gc' cl' f :=
  ⟨h.1, gk_CHm hV _ _ h.2.1, h.2.2.1, h.2.2.2.1, h.2.2.2.2.1, h.2.2.2.2.2.1, fun z y => gk_KPm h1 h2 hc (h.2.2.2.2.2.2 z y)⟩
theorem gk_SLm {w : gw_T} {V V' : gv_T} {fc gc fc' gc' r : Nat} {cl cl' : Prop} {L : List gf_T} (hV : gk_X V V') (h1 : fc ≤ fc') (h2 : gc ≤ gc') (hc : cl → cl') (h : gk_SL w V fc gc r cl L) : gk_SL w V' fc' gc' r cl' L :=
  ⟨h.1, fun f hf => gk_FOm hV h1 h2 hc (h.2 f hf)⟩
theorem gw_cl {w : gw_T} (hw : gw_S w) {p j : Nat} (hp : p < gw_n w) (hj : j < gw_o w p) : p < gw_c w p j ∧ gw_c w p j < gw_n w := by
  have h := tr_cin hw.1 hj
  have h2 := tr_nest hw.1 _ 0 p (Nat.le_refl _) (by omega) (by rw [hw.2.1]; exact hp)
  rw [hw.2.1] at h2
  exact ⟨h.1, Nat.lt_of_lt_of_le h.2 h2⟩
theorem gk_PTl {w : gw_T} (hw : gw_S w) {r : Nat} : ∀ L t, gk_PT w r L t → L.length ≤ t := by
  intro L
  induction L with
  | nil => intro t _; exact Nat.zero_le _
  | cons g L ih =>
    intro t h
    obtain ⟨_, ⟨j, hj, e, _⟩, h2⟩ := h
    have := ih _ h2
    have h3 := (tr_cin hw.1 hj).1
    have h4 : t = tr_c (gw_e w) g.1 j := e
    show L.length + 1 ≤ t
    omega
theorem gk_PTo {w : gw_T} (hw : gw_S w) {V : gv_T} {fc gc r : Nat} {cl : Prop} : ∀ L t, gk_PT w r L t → (∀ f, f ∈ L → gk_FO w V fc gc cl f) → gw_ow w t = gw_ow w r := by
  intro L
  induction L with
  | nil => intro t h _; rw [show t = r from h]
  | cons g L ih =>
    intro t h hf
    obtain ⟨h0, ⟨j, hj, e, _⟩, h2⟩ := h
    have hg := hf g (List.mem_cons_self ..)
    have h5 := (hg.2.2.2.1 h0).2
    have h7 := (hw.2.2.2.2.2.2.1 g.1 j hg.1 hj).2.2.2 h5
    rw [e, h7.1]
    exact ih _ h2 (fun f hm => hf f (List.mem_cons_of_mem _ hm))
theorem gk_rt0 {w : gw_T} (hw : gw_S w) {s r : Nat} (h : gk_RT w s r) : gw_il w r = false := by
  rcases h with ⟨_, rfl⟩ | ⟨f, hf, hk, rfl, _⟩
  · exact hw.2.2.2.2.2.1.2.1
  · have ho : gw_o w f = 1 := by rw [hw.2.2.2.1 f hf, hk]; decide
    exact ((hw.2.2.2.2.2.2.1 f 0 hf (by omega)).2.2.1 hk).1
theorem gk_BKp {w : gw_T} (hw : gw_S w) {V : gv_T} {fc gc s r t : Nat} {cl : Prop} {L : List gf_T} {h : Int32} (hr : gk_RT w s r) (hp : gk_PT w r L t) (hL : ∀ f, f ∈ L → gk_FO w V fc gc cl f) (hi : h = 2 ∨ h = 3 → gw_il w t = true) : gk_BK w L h := by
  intro hh
  have hi := hi hh
  cases L with
  | nil =>
    have : t = r := hp
    rw [this, gk_rt0 hw hr] at hi
    cases hi
  | cons g L =>
    refine ⟨g, L, rfl, ?_⟩
    obtain ⟨h0, ⟨j, hj, e, e1, e2⟩, h2⟩ := hp
    have hg := hL g (List.mem_cons_self ..)
    have h5 := (hg.2.2.2.1 h0).2
    have h7 := (hw.2.2.2.2.2.2.1 g.1 j hg.1 hj).2.2.2 h5
    rw [e] at hi
    rcases h7.2 hi with ⟨k, hj1⟩ | k
    · left
      refine ⟨k, ?_⟩
      have h3 : g.2.1 ≠ 3 := fun z => (hg.2.2.2.2.2.1 z).1 k
      have h1 : g.2.1 ≠ 1 := fun z => by have := e1 z; omega
      have := hg.2.2.1
      omega
    · exact Or.inr k
theorem gk_02 {P : Prop} : (0 : Nat) = 2 → P := fun z => nomatch z
theorem gk_03 {P : Prop} : (0 : Nat) = 3 → P := fun z => nomatch z
theorem gk_32 {P : Prop} : (3 : Nat) = 2 → P := fun z => nomatch z
end
section
theorem gk_AOm {gc : Nat} : ∀ A, gk_AO gc A → ∀ s, s ∈ A → s < A.length ∨ 8 ≤ s := by
  intro A
  induction A with
  | nil => intro _ s hs; cases hs
  | cons a A ih =>
    intro h s hs
    rcases List.mem_cons.mp hs with e | e
    · subst e
      rcases h.1 with e | e
      · exact Or.inl (by show s < A.length + 1; omega)
      · exact Or.inr e.1
    · rcases ih h.2 s e with z | z
      · exact Or.inl (by show s < A.length + 1; omega)
      · exact Or.inr z
theorem gk_AOn {gc a : Nat} {A : List Nat} (h : gk_AO gc (a :: A)) (hl : (a :: A).length ≤ 8) : ¬ a ∈ A := by
  intro hm
  have hl2 : A.length + 1 ≤ 8 := hl
  rcases h.1 with e | e
  · rcases gk_AOm A h.2 a hm with z | z <;> omega
  · exact e.2.2.1 hm
theorem gk_AO16 {gc a : Nat} {A : List Nat} (h : gk_AO gc (a :: A)) (hl : (a :: A).length ≤ 8) (hg : gc ≤ 8) : a < 16 := by
  have hl2 : A.length + 1 ≤ 8 := hl
  rcases h.1 with e | e <;> omega
theorem gk_PTn {w : gw_T} {r : Nat} : ∀ L t, gk_PT w r L t → gk_NH L := by
  intro L
  induction L with
  | nil => intro t _ f hf; cases hf
  | cons g L ih =>
    intro t h f hf
    rcases List.mem_cons.mp hf with e | e
    · subst e; exact h.1
    · exact ih _ h.2.2 f e
theorem gk_SLt {w : gw_T} {V : gv_T} {fc gc r : Nat} {cl : Prop} {f : gf_T} {L : List gf_T} (h : gk_SL w V fc gc r cl (f :: L)) : gk_SL w V fc gc r cl L := by
  refine ⟨?_, fun g hg => h.2 g (List.mem_cons_of_mem _ hg)⟩
  intro g L' e
  subst e
  exact (h.1 f _ rfl).2.2
theorem gk_SLl {w : gw_T} (hw : gw_S w) {V : gv_T} {fc gc r : Nat} {cl : Prop} {L : List gf_T} (h : gk_SL w V fc gc r cl L) : L.length ≤ 48 := by
  cases L with
  | nil => exact Nat.zero_le _
  | cons f L =>
    have h1 := gk_PTl hw L f.1 (h.1 f L rfl)
    have h2 := (h.2 f (List.mem_cons_self ..)).1
    have h3 := hw.2.2.1
    show L.length + 1 ≤ 48
    omega
section
variable {w : gw_T} {M : gm_T} {S : Nat → List gf_T} {a : Nat} {A' : List Nat} {V : gv_T} {F : gp_T} {G : gg_T} {nc sp : Nat}
theorem gk_Ia (I : gk_I w M S (a :: A') V F G nc sp) : a < 16 := gk_AO16 I.2.1.1 I.2.1.2 I.2.2.2.2.1.2.2
theorem gk_Is (I : gk_I w M S (a :: A') V F G nc sp) : ∃ r, gk_RT w a r ∧ gk_SL w V F.2.2 G.2.2.2 r (gk_cl G a) (S a) :=
  I.1 a (gk_Ia I) (Or.inl (List.mem_cons_self ..))
theorem gk_top (I : gk_I w M S (a :: A') V F G nc sp) {M' : gm_T} {L2 : List gf_T} {V' : gv_T} {F' : gp_T} {nc' sp' : Nat}
    (hX : gk_X V V') (hF : F.2.2 ≤ F'.2.2) (hVF : gk_VF w V' F' G.2.2.2)
    (hS : ∀ r, gk_RT w a r → gk_SL w V F.2.2 G.2.2.2 r (gk_cl G a) (S a) → gk_SL w V' F'.2.2 G.2.2.2 r (gk_cl G a) L2)
    (hs : V'.2.2.2.2 + F'.2.2 + nc' + gk_yl L2 + sp ≤ V.2.2.2.2 + F.2.2 + nc + gk_yl (S a) + sp') (hsp : sp' ≤ 600)
    (hM : gk_MD w F'.2.2 G.2.2.2 (gk_cl G a) M' L2) : gk_I w M' (gk_su S a L2) (a :: A') V' F' G nc' sp' := by
  have ha := gk_Ia I
  obtain ⟨r, hr, hsl⟩ := gk_Is I
  obtain ⟨i1, i2, i3, i4, i5, i6, i7⟩ := I
  refine ⟨?_, i2, ?_, hVF, ?_, ?_, fun z => nomatch z⟩
  · intro s h16 hl
    by_cases z : s = a
    · subst z
      rw [gk_sus]
      exact ⟨r, hr, hS r hr hsl⟩
    · rw [gk_sun z]
      obtain ⟨r', h1, h2⟩ := i1 s h16 hl
      exact ⟨r', h1, gk_SLm hX hF (Nat.le_refl _) id h2⟩
  · intro g hg
    obtain ⟨g1, g2, g3, g4, g5⟩ := i3 g hg
    have hne : G.1 g ≠ 2 → 8 + g ≠ a := by
      intro z e
      exact z (g3.mpr (by rw [e]; exact List.mem_cons_self ..))
    refine ⟨g1, g2, g3, ?_, ?_⟩
    · intro z
      rw [gk_sun (hne (by rw [z]; decide))]
      exact g4 z
    · intro z
      rw [gk_sun (hne (by rw [z]; decide))]
      exact g5 z
  · have := gk_sms gk_yl S a L2 16 ha
    exact ⟨by omega, hsp, i5.2.2⟩
  · intro b B e
    cases e
    obtain ⟨j1, j2⟩ := i6 a A' rfl
    refine ⟨?_, by rw [gk_sus]; exact hM⟩
    intro s hs
    have : s ≠ a := fun e => gk_AOn i2.1 i2.2 (e ▸ hs)
    rw [gk_sun this]
    exact j1 s hs
theorem gk_mut (ha : a < 16) {M' : gm_T} {L2 : List gf_T} {sp' : Nat} (h : 4 * (600 - sp') + gk_wt L2 + (if M'.1 = true then 0 else 1) < 4 * (600 - sp) + gk_wt (S a) + (if M.1 = true then 0 else 1)) : gk_mu M' (gk_su S a L2) (a :: A') sp' < gk_mu M S (a :: A') sp := by
  have := gk_sms gk_wt S a L2 16 ha
  unfold gk_mu
  omega
theorem gk_pop (hw : gw_S w) (I : gk_I w M S (a :: A') V F G nc sp) {f : gf_T} {L : List gf_T} (hSa : S a = f :: L) {h s : Int32} {x : Int64} {V' : gv_T} {F' : gp_T} {nc' sp' : Nat}
    (hX : gk_X V V') (hF : F.2.2 ≤ F'.2.2) (hVF : gk_VF w V' F' G.2.2.2)
    (hs : V'.2.2.2.2 + F'.2.2 + nc' + gk_yl L + sp ≤ V.2.2.2.2 + F.2.2 + nc + gk_yl (f :: L) + sp') (hsp : sp' ≤ 600)
    (hh : gk_HW h) (hv : gk_hv h → gk_VV F'.2.2 G.2.2.2 s x) (hb : h = 2 ∨ h = 3 → gw_il w f.1 = true) (h5 : h = 5 → gk_cl G a)
    (hm : 4 * (600 - sp') + gk_wt L + 1 < 4 * (600 - sp) + gk_wt (f :: L) + (if M.1 = true then 0 else 1)) :
    gk_I w (false, h, s, x) (gk_su S a L) (a :: A') V' F' G nc' sp' ∧ gk_mu (false, h, s, x) (gk_su S a L) (a :: A') sp' < gk_mu M S (a :: A') sp := by
  have ha := gk_Ia I
  obtain ⟨r, hr, hsl⟩ := gk_Is I
  rw [hSa] at hsl
  constructor
  · refine gk_top I hX hF hVF ?_ (by rw [hSa]; exact hs) hsp ?_
    · intro r' _ hs'
      rw [hSa] at hs'
      exact gk_SLm hX hF (Nat.le_refl _) id (gk_SLt hs')
    · refine ⟨fun z => (by cases z), fun _ => ⟨gk_PTn L _ (hsl.1 f L rfl), hh, hv, ?_, h5⟩⟩
      exact gk_BKp hw hr (hsl.1 f L rfl) (fun g hg => hsl.2 g (List.mem_cons_of_mem _ hg)) hb
  · refine gk_mut ha ?_
    rw [hSa]
    show 4 * (600 - sp') + gk_wt L + (if false = true then 0 else 1) < _
    rw [if_neg (by decide)]
    exact hm
theorem gk_push (hw : gw_S w) (I : gk_I w M S (a :: A') V F G nc sp) {f : gf_T} {L : List gf_T} (hSa : S a = f :: L) {h s : Int32} {x : Int64} {V' : gv_T} {F' : gp_T} {nc' sp' : Nat}
    {st j : Nat} {ke ks c' e0 s0 : Int32} {kn n0 : Int64}
    (hX : gk_X V V') (hF : F.2.2 ≤ F'.2.2) (hVF : gk_VF w V' F' G.2.2.2)
    (hst : st ≠ 0) (hf : gk_FO w V' F'.2.2 G.2.2.2 (gk_cl G a) (f.1, st, f.2.2.1, ke, ks, kn))
    (hj : j < gw_o w f.1) (h1 : st = 1 → j = 0) (h2 : st = 2 → j = 1) (hc : gk_CH V' (gw_sc w (gw_c w f.1 j)) c')
    (hs : V'.2.2.2.2 + F'.2.2 + nc' + (if st = 1 ∨ st = 2 then gk_yl L + 1 else gk_yl L) + sp ≤ V.2.2.2.2 + F.2.2 + nc + gk_yl (f :: L) + sp') (hsp : sp' ≤ 600)
    (hm : 4 * (600 - sp') + (gk_wt L + (if st = 1 ∨ st = 2 then 3 else if st = 3 then 1 else 0)) < 4 * (600 - sp) + gk_wt (f :: L) + (if M.1 = true then 0 else 1)) :
    gk_I w (true, h, s, x) (gk_su S a ((gw_c w f.1 j, 0, c', e0, s0, n0) :: (f.1, st, f.2.2.1, ke, ks, kn) :: L)) (a :: A') V' F' G nc' sp' ∧
    gk_mu (true, h, s, x) (gk_su S a ((gw_c w f.1 j, 0, c', e0, s0, n0) :: (f.1, st, f.2.2.1, ke, ks, kn) :: L)) (a :: A') sp' < gk_mu M S (a :: A') sp := by
  have ha := gk_Ia I
  obtain ⟨r, hr, hsl⟩ := gk_Is I
  rw [hSa] at hsl
  constructor
  · refine gk_top I hX hF hVF ?_ (by rw [hSa]; exact hs) hsp ?_
    · intro r' _ hs'
      rw [hSa] at hs'
      refine ⟨?_, ?_⟩
      · intro g L' e
        cases e
        exact ⟨hst, ⟨j, hj, rfl, h1, h2⟩, hs'.1 f L rfl⟩
      · intro g hg
        rcases List.mem_cons.mp hg with e | hg
        · subst e
          exact ⟨(gw_cl hw hf.1 hj).2, hc, by show (0 : Nat) ≤ 3; omega, fun z => absurd rfl z, gk_02, gk_03, gk_02⟩
        · rcases List.mem_cons.mp hg with e | hg
          · subst e
            exact hf
          · exact gk_FOm hX hF (Nat.le_refl _) id (hs'.2 g (List.mem_cons_of_mem _ hg))
    · exact ⟨fun _ => ⟨_, _, rfl, rfl⟩, fun z => (by cases z)⟩
  · refine gk_mut ha ?_
    rw [hSa]
    show 4 * (600 - sp') + (gk_wt L + (if st = 1 ∨ st = 2 then 3 else if st = 3 then 1 else 0) + 0) + (if true = true then 0 else 1) < _
    rw [if_pos rfl]
    omega
end
end
section
def gk_bd (V : gv_T) (b c s : Int32) (x : Int64) : gv_T := (upd V.1 V.2.2.2.2 b, upd V.2.1 V.2.2.2.2 c, upd V.2.2.1 V.2.2.2.2 s, vp_updL V.2.2.2.1 V.2.2.2.2 x, V.2.2.2.2 + 1)
theorem gk_bdX (V : gv_T) (b c s : Int32) (x : Int64) : gk_X V (gk_bd V b c s x) :=
  ⟨Nat.le_succ _, fun i hi => ⟨pk_un (by omega), pk_un (by omega)⟩⟩
theorem gk_bdC {V : gv_T} {b : Nat} {l : List Nat} {c s : Int32} {x : Int64} (h : gk_CH V l c) : gk_CH (gk_bd V (nI b) c s x) (b :: l) (nI V.2.2.2.2) := by
  refine ⟨V.2.2.2.2, Nat.lt_succ_self _, rfl, pk_us, ?_⟩
  have e : (gk_bd V (nI b) c s x).2.1 V.2.2.2.2 = c := pk_us
  rw [e]
  exact gk_CHm (gk_bdX V (nI b) c s x) _ _ h
theorem gk_VFm {w : gw_T} {V V' : gv_T} {F : gp_T} {gc gc' : Nat} (hX : gk_X V V') (h : gk_VF w V F gc) (hg : gc ≤ gc')
    (hv : ∀ i, i < V'.2.2.2.2 → gk_VV F.2.2 gc' (V'.2.2.1 i) (V'.2.2.2.1 i)) : gk_VF w V' F gc' := by
  refine ⟨hv, ?_⟩
  intro i hi
  obtain ⟨t, h1, h2, h3, h4⟩ := h.2 i hi
  exact ⟨t, h1, h2, h3, gk_CHm hX _ _ h4⟩
theorem gk_bdV {w : gw_T} {V : gv_T} {F : gp_T} {gc gc' : Nat} {b c s : Int32} {x : Int64} (h : gk_VF w V F gc) (hg : gc ≤ gc') (hv : gk_VV F.2.2 gc s x) : gk_VF w (gk_bd V b c s x) F gc' := by
  refine gk_VFm (gk_bdX V b c s x) h hg ?_
  intro i hi
  have hi2 : i < V.2.2.2.2 + 1 := hi
  by_cases z : i = V.2.2.2.2
  · subst z
    have e1 : (gk_bd V b c s x).2.2.1 V.2.2.2.2 = s := pk_us
    have e2 : (gk_bd V b c s x).2.2.2.1 V.2.2.2.2 = x := pk_uLs
    rw [e1, e2]
    exact gk_VVm (Nat.le_refl _) hg hv
  · have e1 : (gk_bd V b c s x).2.2.1 i = V.2.2.1 i := pk_un z
    have e2 : (gk_bd V b c s x).2.2.2.1 i = V.2.2.2.1 i := pk_uLn z
    rw [e1, e2]
    exact gk_VVm (Nat.le_refl _) hg (h.1 i (by omega))
theorem gk_NHc {f : gf_T} {L : List gf_T} (h1 : f.2.1 ≠ 0) (h2 : gk_NH L) : gk_NH (f :: L) := by
  intro g hg
  rcases List.mem_cons.mp hg with e | e
  · subst e; exact h1
  · exact h2 g e
theorem gk_NHt {f : gf_T} {L : List gf_T} (h : gk_NH (f :: L)) : gk_NH L := fun g hg => h g (List.mem_cons_of_mem _ hg)
theorem gk_SL3 {w : gw_T} {V V' : gv_T} {fc fc' gc gc' r : Nat} {cl cl' : Prop} {f : gf_T} {L : List gf_T} (hX : gk_X V V') (h1 : fc ≤ fc') (h2 : gc ≤ gc') (hc : cl → cl') (h : gk_SL w V fc gc r cl (f :: L)) (h0 : f.2.1 ≠ 0) (hk : gw_K w f.1 ≠ 14 ∧ gw_K w f.1 ≠ 21) : gk_SL w V' fc' gc' r cl' ((f.1, 3, f.2.2) :: L) := by
  refine ⟨?_, ?_⟩
  · intro g L' e
    cases e
    exact h.1 f L rfl
  · intro g hg
    rcases List.mem_cons.mp hg with e | hg
    · subst e
      have hf := h.2 f (List.mem_cons_self ..)
      exact ⟨hf.1, gk_CHm hX _ _ hf.2.1, Nat.le_refl _, fun _ => hf.2.2.2.1 h0, gk_32, fun _ => hk, gk_32⟩
    · exact gk_FOm hX h1 h2 hc (h.2 g (List.mem_cons_of_mem _ hg))
theorem gk_SL1 {w : gw_T} {V : gv_T} {fc gc r t : Nat} {cl : Prop} {c e0 s0 : Int32} {n0 : Int64} (ht : t < gw_n w) (hr : t = r) (hc : gk_CH V (gw_sc w t) c) : gk_SL w V fc gc r cl [(t, 0, c, e0, s0, n0)] := by
  refine ⟨?_, ?_⟩
  · intro g L' e
    cases e
    exact hr
  · intro g hg
    rcases List.mem_cons.mp hg with e | hg
    · subst e
      exact ⟨ht, hc, Nat.zero_le _, fun z => absurd rfl z, gk_02, gk_03, gk_02⟩
    · cases hg
section
variable {w : gw_T} {M : gm_T} {S : Nat → List gf_T} {a : Nat} {A' : List Nat} {V : gv_T} {F : gp_T} {G : gg_T} {nc sp : Nat}
theorem gk_scf (hw : gw_S w) {t : Nat} (ht : t < gw_n w) (hk : gw_K w t = 5) : t + 1 < gw_n w ∧ gw_sc w (t + 1) = t :: gw_sc w t := by
  have ho : gw_o w t = 1 := by rw [hw.2.2.2.1 t ht, hk]; decide
  have h1 := gw_cl hw ht (show 0 < gw_o w t by omega)
  exact ⟨h1.2, (hw.2.2.2.2.2.2.1 t 0 ht (by omega)).1 (Or.inl hk)⟩
theorem gk_call (hw : gw_S w) (I : gk_I w M S (a :: A') V F G nc sp) (hb : M.1 = false) {f : gf_T} {L : List gf_T} (hSa : S a = f :: L) (hf : f.2.1 = 2)
    (hk : gw_K w f.1 ≠ 14 ∧ gw_K w f.1 ≠ 21) (hd : A'.length + 1 < 8) {t : Nat} {c s : Int32} {x : Int64} (ht : t < gw_n w) (hkt : gw_K w t = 5) (hg : gw_gn w t = 0)
    (hc : gk_CH V (gw_sc w t) c) (hv : gk_VV F.2.2 G.2.2.2 s x) {h2 s2 e0 s0 : Int32} {x2 n0 : Int64} :
    gk_I w (true, h2, s2, x2) (gk_su (gk_su S a ((f.1, 3, f.2.2) :: L)) (A'.length + 1) [(t + 1, 0, nI V.2.2.2.2, e0, s0, n0)]) ((A'.length + 1) :: a :: A') (gk_bd V (nI t) c s x) F G nc sp ∧
    gk_mu (true, h2, s2, x2) (gk_su (gk_su S a ((f.1, 3, f.2.2) :: L)) (A'.length + 1) [(t + 1, 0, nI V.2.2.2.2, e0, s0, n0)]) ((A'.length + 1) :: a :: A') sp < gk_mu M S (a :: A') sp := by
  have ha := gk_Ia I
  have hx := gk_bdX V (nI t) c s x
  obtain ⟨i1, i2, i3, i4, i5, i6, i7⟩ := I
  obtain ⟨j1, j2⟩ := i6 a A' rfl
  have hnh := (j2.2 hb).1
  rw [hSa] at hnh
  have hsc := gk_scf hw ht hkt
  have had : a ≠ A'.length + 1 := by
    rcases gk_AOm _ i2.1 a (List.mem_cons_self ..) with z | z
    · have z2 : a < A'.length + 1 := z
      omega
    · omega
  have hAd : ∀ s, s ∈ a :: A' → s ≠ A'.length + 1 := by
    intro s hs
    rcases gk_AOm _ i2.1 s hs with z | z
    · have z2 : s < A'.length + 1 := z
      omega
    · omega
  have e1 := gk_sms gk_yl S a ((f.1, 3, f.2.2) :: L) 16 ha
  have e2 := gk_sms gk_yl (gk_su S a ((f.1, 3, f.2.2) :: L)) (A'.length + 1) [(t + 1, 0, nI V.2.2.2.2, e0, s0, n0)] 16 (by omega)
  have e3 := gk_sms gk_wt S a ((f.1, 3, f.2.2) :: L) 16 ha
  have e4 := gk_sms gk_wt (gk_su S a ((f.1, 3, f.2.2) :: L)) (A'.length + 1) [(t + 1, 0, nI V.2.2.2.2, e0, s0, n0)] 16 (by omega)
  have y1 : gk_yl ((f.1, 3, f.2.2) :: L) = gk_yl L := rfl
  have y2 : gk_yl (S a) = gk_yl L + 1 := by rw [hSa]; exact if_pos (Or.inr hf)
  have y3 : gk_yl [(t + 1, 0, nI V.2.2.2.2, e0, s0, n0)] = 0 := rfl
  have y4 : gk_wt ((f.1, 3, f.2.2) :: L) = gk_wt L + 1 := rfl
  have y5 : gk_wt (S a) = gk_wt L + 3 := by
    rw [hSa]
    show gk_wt L + _ = _
    rw [if_pos (Or.inr hf)]
  have y6 : gk_wt [(t + 1, 0, nI V.2.2.2.2, e0, s0, n0)] = 0 := rfl
  refine ⟨⟨?_, ⟨⟨Or.inl rfl, i2.1⟩, by show A'.length + 1 + 1 ≤ 8; omega⟩, ?_, gk_bdV i4 (Nat.le_refl _) hv, ⟨?_, i5.2.1, i5.2.2⟩, ?_, (fun z => nomatch z)⟩, ?_⟩
  · intro s h16 hl
    by_cases z : s = A'.length + 1
    · subst z
      rw [gk_sus]
      refine ⟨t + 1, Or.inr ⟨t, ht, hkt, rfl, fun _ => hg, fun z => by omega⟩, gk_SL1 hsc.1 rfl ?_⟩
      rw [hsc.2]
      exact gk_bdC hc
    · rw [gk_sun z]
      have hl2 : gk_lv (a :: A') G.2.2.2 s := by
        rcases hl with h | h
        · rcases List.mem_cons.mp h with h | h
          · exact absurd h z
          · exact Or.inl h
        · exact Or.inr h
      obtain ⟨r, hr, hs⟩ := i1 s h16 hl2
      refine ⟨r, hr, ?_⟩
      by_cases z2 : s = a
      · subst z2
        rw [gk_sus]
        rw [hSa] at hs
        exact gk_SL3 hx (Nat.le_refl _) (Nat.le_refl _) id hs (by omega) hk
      · rw [gk_sun z2]
        exact gk_SLm hx (Nat.le_refl _) (Nat.le_refl _) id hs
  · intro g hg
    obtain ⟨g1, g2, g3, g4, g5⟩ := i3 g hg
    have hne : G.1 g ≠ 2 → 8 + g ≠ a := by
      intro z e
      exact z (g3.mpr (by rw [e]; exact List.mem_cons_self ..))
    refine ⟨g1, g2, ⟨fun z => List.mem_cons_of_mem _ (g3.mp z), fun z => ?_⟩, ?_, ?_⟩
    · rcases List.mem_cons.mp z with z | z
      · omega
      · exact g3.mpr z
    · intro z
      rw [gk_sun (by omega), gk_sun (hne (by rw [z]; decide))]
      exact g4 z
    · intro z
      rw [gk_sun (by omega), gk_sun (hne (by rw [z]; decide))]
      exact g5 z
  · show V.2.2.2.2 + 1 + F.2.2 + nc + _ ≤ sp
    omega
  · intro b B e
    cases e
    refine ⟨?_, ?_⟩
    · intro s hs
      rw [gk_sun (hAd s hs)]
      rcases List.mem_cons.mp hs with z | z
      · subst z
        rw [gk_sus]
        exact gk_NHc (by show (3 : Nat) ≠ 0; decide) (gk_NHt hnh)
      · have : s ≠ a := fun e => gk_AOn i2.1 i2.2 (e ▸ z)
        rw [gk_sun this]
        exact j1 s z
    · rw [gk_sus]
      exact ⟨fun _ => ⟨_, _, rfl, rfl⟩, fun z => (by cases z)⟩
  · show 4 * (600 - sp) + _ + (A'.length + 1 + 1) + (if true = true then 0 else 1) < 4 * (600 - sp) + _ + (A'.length + 1) + (if M.1 = true then 0 else 1)
    rw [if_pos rfl, if_neg (by rw [hb]; decide)]
    omega
end
end
section
theorem gk_n23 : ¬ ((0 : Int32) = 2 ∨ (0 : Int32) = 3) := by decide
theorem gk_n5 : ¬ (0 : Int32) = 5 := by decide
theorem gk_AOc {gc gc' : Nat} (hg : gc ≤ gc') : ∀ A, gk_AO gc A → gk_AO gc' A := by
  intro A
  induction A with
  | nil => exact fun h => h
  | cons a A ih =>
    intro h
    refine ⟨?_, ih h.2⟩
    rcases h.1 with e | e
    · exact Or.inl e
    · exact Or.inr ⟨e.1, by omega, e.2.2⟩
theorem gk_AOg {gc : Nat} : ∀ A, gk_AO gc A → A.length ≤ 8 → ∀ s, s ∈ A → s < 8 + gc := by
  intro A
  induction A with
  | nil => intro _ _ s hs; cases hs
  | cons a A ih =>
    intro h hl s hs
    have hl2 : A.length + 1 ≤ 8 := hl
    rcases List.mem_cons.mp hs with e | e
    · subst e
      rcases h.1 with e | e <;> omega
    · exact ih h.2 (by omega) s e
section
variable {w : gw_T} {M : gm_T} {S : Nat → List gf_T} {a : Nat} {A' : List Nat} {V : gv_T} {F : gp_T} {G : gg_T} {nc sp : Nat}
theorem gk_mkg (hw : gw_S w) (I : gk_I w M S (a :: A') V F G nc sp) (hb : M.1 = false) {f : gf_T} {L : List gf_T} (hSa : S a = f :: L) (hf : f.2.1 = 2)
    (hgc : G.2.2.2 < 8) {t : Nat} {c s : Int32} {x : Int64} (ht : t < gw_n w) (hkt : gw_K w t = 5) (hg : gw_gn w t = 1)
    (hc : gk_CH V (gw_sc w t) c) (hv : gk_VV F.2.2 G.2.2.2 s x) {e0 s0 : Int32} {n0 : Int64} :
    gk_I w (false, 0, 4, lN G.2.2.2) (gk_su (gk_su S a L) (8 + G.2.2.2) [(t + 1, 0, nI V.2.2.2.2, e0, s0, n0)]) (a :: A') (gk_bd V (nI t) c s x) F (upd G.1 G.2.2.2 0, upd G.2.1 G.2.2.2 0, G.2.2.1, G.2.2.2 + 1) nc sp ∧
    gk_mu (false, 0, 4, lN G.2.2.2) (gk_su (gk_su S a L) (8 + G.2.2.2) [(t + 1, 0, nI V.2.2.2.2, e0, s0, n0)]) (a :: A') sp < gk_mu M S (a :: A') sp := by
  have ha := gk_Ia I
  have hx := gk_bdX V (nI t) c s x
  obtain ⟨i1, i2, i3, i4, i5, i6, i7⟩ := I
  obtain ⟨j1, j2⟩ := i6 a A' rfl
  have hnh := (j2.2 hb).1
  rw [hSa] at hnh
  have hsc := gk_scf hw ht hkt
  have hAg := gk_AOg _ i2.1 i2.2
  have hag := hAg a (List.mem_cons_self ..)
  have e1 := gk_sms gk_yl S a L 16 ha
  have e2 := gk_sms gk_yl (gk_su S a L) (8 + G.2.2.2) [(t + 1, 0, nI V.2.2.2.2, e0, s0, n0)] 16 (by omega)
  have e3 := gk_sms gk_wt S a L 16 ha
  have e4 := gk_sms gk_wt (gk_su S a L) (8 + G.2.2.2) [(t + 1, 0, nI V.2.2.2.2, e0, s0, n0)] 16 (by omega)
  have y2 : gk_yl (S a) = gk_yl L + 1 := by rw [hSa]; exact if_pos (Or.inr hf)
  have y3 : gk_yl [(t + 1, 0, nI V.2.2.2.2, e0, s0, n0)] = 0 := rfl
  have y5 : gk_wt (S a) = gk_wt L + 3 := by
    rw [hSa]
    show gk_wt L + _ = _
    rw [if_pos (Or.inr hf)]
  have y6 : gk_wt [(t + 1, 0, nI V.2.2.2.2, e0, s0, n0)] = 0 := rfl
  refine ⟨⟨?_, ⟨gk_AOc (Nat.le_succ _) _ i2.1, i2.2⟩, ?_, gk_bdV i4 (Nat.le_succ _) hv, ⟨?_, i5.2.1, by show G.2.2.2 + 1 ≤ 8; omega⟩, ?_, (fun z => nomatch z)⟩, ?_⟩
  · intro s h16 hl
    by_cases z : s = 8 + G.2.2.2
    · subst z
      rw [gk_sus]
      refine ⟨t + 1, Or.inr ⟨t, ht, hkt, rfl, fun z => by omega, fun _ => hg⟩, gk_SL1 hsc.1 rfl ?_⟩
      rw [hsc.2]
      exact gk_bdC hc
    · rw [gk_sun z]
      have hl2 : gk_lv (a :: A') G.2.2.2 s := by
        rcases hl with h | h
        · exact Or.inl h
        · have h2 : s < 8 + (G.2.2.2 + 1) := h.2
          exact Or.inr ⟨h.1, by omega⟩
      obtain ⟨r, hr, hs⟩ := i1 s h16 hl2
      refine ⟨r, hr, ?_⟩
      have hcl : gk_cl G s → gk_cl (upd G.1 G.2.2.2 0, upd G.2.1 G.2.2.2 0, G.2.2.1, G.2.2.2 + 1) s := by
        intro q
        refine ⟨q.1, ?_⟩
        show upd G.2.1 G.2.2.2 0 (s - 8) = 1
        rw [pk_un (by have := q.1; omega)]
        exact q.2
      by_cases z2 : s = a
      · subst z2
        rw [gk_sus]
        rw [hSa] at hs
        exact gk_SLm hx (Nat.le_refl _) (Nat.le_succ _) hcl (gk_SLt hs)
      · rw [gk_sun z2]
        exact gk_SLm hx (Nat.le_refl _) (Nat.le_succ _) hcl hs
  · intro g hg
    have hg2 : g < G.2.2.2 + 1 := hg
    by_cases z : g = G.2.2.2
    · subst z
      have u1 : upd G.1 G.2.2.2 0 G.2.2.2 = 0 := pk_us
      have u2 : upd G.2.1 G.2.2.2 0 G.2.2.2 = 0 := pk_us
      refine ⟨Or.inl u1, Or.inl u2, ⟨fun z => ?_, fun z => ?_⟩, fun _ => ⟨u2, _, gk_sus, rfl⟩, fun z => ?_⟩
      · have z2 : upd G.1 G.2.2.2 0 G.2.2.2 = 2 := z
        rw [u1] at z2
        exact absurd z2 (by decide)
      · have := hAg _ z
        omega
      · have z2 : upd G.1 G.2.2.2 0 G.2.2.2 = 1 := z
        rw [u1] at z2
        exact absurd z2 (by decide)
    · obtain ⟨g1, g2, g3, g4, g5⟩ := i3 g (by omega)
      have hne : G.1 g ≠ 2 → 8 + g ≠ a := by
        intro z e
        exact z (g3.mpr (by rw [e]; exact List.mem_cons_self ..))
      have u1 : upd G.1 G.2.2.2 0 g = G.1 g := pk_un z
      have u2 : upd G.2.1 G.2.2.2 0 g = G.2.1 g := pk_un z
      unfold gk_GN
      simp only [u1, u2]
      refine ⟨g1, g2, g3, ?_, ?_⟩
      · intro z
        rw [gk_sun (by omega), gk_sun (hne (by rw [z]; decide))]
        exact g4 z
      · intro z
        rw [gk_sun (by omega), gk_sun (hne (by rw [z]; decide))]
        exact g5 z
  · show V.2.2.2.2 + 1 + F.2.2 + nc + _ ≤ sp
    omega
  · intro b B e
    cases e
    refine ⟨?_, ?_⟩
    · intro s hs
      have h1 := hAg s (List.mem_cons_of_mem _ hs)
      have h2 : s ≠ a := fun e => gk_AOn i2.1 i2.2 (e ▸ hs)
      rw [gk_sun (by omega), gk_sun h2]
      exact j1 s hs
    · rw [gk_sun (by omega), gk_sus]
      exact ⟨fun z => (by cases z), fun _ => ⟨gk_NHt hnh, Or.inl rfl, fun _ => Or.inr (Or.inr ⟨rfl, _, Nat.lt_succ_self _, rfl⟩), fun z => absurd z gk_n23, fun z => absurd z gk_n5⟩⟩
  · show 4 * (600 - sp) + _ + (A'.length + 1) + (if false = true then 0 else 1) < 4 * (600 - sp) + _ + (A'.length + 1) + (if M.1 = true then 0 else 1)
    rw [if_neg (by decide), if_neg (by rw [hb]; decide)]
    omega
theorem gk_ent (I : gk_I w M S (a :: A') V F G nc sp) (hb : M.1 = false) {f : gf_T} {L : List gf_T} (hSa : S a = f :: L) (hf : f.2.1 = 1 ∨ f.2.1 = 2)
    (hk : gw_K w f.1 ≠ 14 ∧ gw_K w f.1 ≠ 21) (hd : A'.length + 1 < 8) {g : Nat} (hg : g < G.2.2.2) (hst : G.1 g ≠ 2) {cl' : Nat → Int32}
    (hcl : ∀ i, i ≠ g → cl' i = G.2.1 i) (hcg : G.2.1 g = 1 → cl' g = 1) (h01 : cl' g = 0 ∨ cl' g = 1) {M' : gm_T}
    (hM : gk_MD w F.2.2 G.2.2.2 (cl' g = 1) M' (S (8 + g))) :
    gk_I w M' (gk_su S a ((f.1, 3, f.2.2) :: L)) ((8 + g) :: a :: A') V F (upd G.1 g 2, cl', G.2.2.1, G.2.2.2) nc sp ∧
    gk_mu M' (gk_su S a ((f.1, 3, f.2.2) :: L)) ((8 + g) :: a :: A') sp < gk_mu M S (a :: A') sp := by
  have ha := gk_Ia I
  obtain ⟨i1, i2, i3, i4, i5, i6, i7⟩ := I
  obtain ⟨j1, j2⟩ := i6 a A' rfl
  have hnh := (j2.2 hb).1
  rw [hSa] at hnh
  have hf0 : f.2.1 ≠ 0 := by omega
  have hgA : ¬ 8 + g ∈ a :: A' := fun z => hst ((i3 g hg).2.2.1.mpr z)
  have hga : 8 + g ≠ a := fun z => hgA (by rw [z]; exact List.mem_cons_self ..)
  have e1 := gk_sms gk_yl S a ((f.1, 3, f.2.2) :: L) 16 ha
  have e3 := gk_sms gk_wt S a ((f.1, 3, f.2.2) :: L) 16 ha
  have y1 : gk_yl ((f.1, 3, f.2.2) :: L) = gk_yl L := rfl
  have y2 : gk_yl (S a) = gk_yl L + 1 := by rw [hSa]; exact if_pos hf
  have y4 : gk_wt ((f.1, 3, f.2.2) :: L) = gk_wt L + 1 := rfl
  have y5 : gk_wt (S a) = gk_wt L + 3 := by
    rw [hSa]
    show gk_wt L + _ = _
    rw [if_pos hf]
  have hcls : ∀ s, gk_cl G s → gk_cl (upd G.1 g 2, cl', G.2.2.1, G.2.2.2) s := by
    intro s q
    refine ⟨q.1, ?_⟩
    show cl' (s - 8) = 1
    by_cases z : s - 8 = g
    · rw [z]
      exact hcg (by rw [← z]; exact q.2)
    · rw [hcl _ z]
      exact q.2
  refine ⟨⟨?_, ⟨⟨Or.inr ⟨by omega, by show 8 + g < 8 + G.2.2.2; omega, hgA, (fun z => nomatch z)⟩, i2.1⟩, by show A'.length + 1 + 1 ≤ 8; omega⟩, ?_, i4, ⟨?_, i5.2.1, i5.2.2⟩, ?_, (fun z => nomatch z)⟩, ?_⟩
  · intro s h16 hl
    have hl2 : gk_lv (a :: A') G.2.2.2 s := by
      rcases hl with h | h
      · rcases List.mem_cons.mp h with h | h
        · exact Or.inr (by omega)
        · exact Or.inl h
      · exact Or.inr h
    obtain ⟨r, hr, hs⟩ := i1 s h16 hl2
    refine ⟨r, hr, ?_⟩
    by_cases z2 : s = a
    · subst z2
      rw [gk_sus]
      rw [hSa] at hs
      exact gk_SL3 (gk_Xr V) (Nat.le_refl _) (Nat.le_refl _) (hcls _) hs hf0 hk
    · rw [gk_sun z2]
      exact gk_SLm (gk_Xr V) (Nat.le_refl _) (Nat.le_refl _) (hcls _) hs
  · intro i hi
    by_cases z : i = g
    · subst z
      have u1 : upd G.1 i 2 i = 2 := pk_us
      unfold gk_GN
      simp only [u1]
      refine ⟨Or.inr (Or.inr (Or.inl (by trivial))), h01, ⟨fun _ => List.mem_cons_self .., fun _ => by trivial⟩, fun z => absurd z (by decide), fun z => absurd z (by decide)⟩
    · obtain ⟨g1, g2, g3, g4, g5⟩ := i3 i hi
      have hne : G.1 i ≠ 2 → 8 + i ≠ a := by
        intro z e
        exact z (g3.mpr (by rw [e]; exact List.mem_cons_self ..))
      have u1 : upd G.1 g 2 i = G.1 i := pk_un z
      have u2 : cl' i = G.2.1 i := hcl i z
      unfold gk_GN
      simp only [u1, u2]
      refine ⟨g1, g2, ⟨fun z => List.mem_cons_of_mem _ (g3.mp z), fun y => ?_⟩, ?_, ?_⟩
      · rcases List.mem_cons.mp y with y | y
        · omega
        · exact g3.mpr y
      · intro z
        rw [gk_sun (hne (by rw [z]; decide))]
        exact g4 z
      · intro z
        rw [gk_sun (hne (by rw [z]; decide))]
        exact g5 z
  · show V.2.2.2.2 + F.2.2 + nc + _ ≤ sp
    omega
  · intro b B e
    cases e
    refine ⟨?_, ?_⟩
    · intro s hs
      rcases List.mem_cons.mp hs with z | z
      · subst z
        rw [gk_sus]
        exact gk_NHc (by show (3 : Nat) ≠ 0; decide) (gk_NHt hnh)
      · have : s ≠ a := fun e => gk_AOn i2.1 i2.2 (e ▸ z)
        rw [gk_sun this]
        exact j1 s z
    · rw [gk_sun hga]
      have hq : cl' g = 1 → gk_cl (upd G.1 g 2, cl', G.2.2.1, G.2.2.2) (8 + g) := by
        intro q
        refine ⟨by omega, ?_⟩
        show cl' (8 + g - 8) = 1
        rw [Nat.add_sub_cancel_left]
        exact q
      exact ⟨hM.1, fun z => ⟨(hM.2 z).1, (hM.2 z).2.1, (hM.2 z).2.2.1, (hM.2 z).2.2.2.1, fun y => hq ((hM.2 z).2.2.2.2 y)⟩⟩
  · show 4 * (600 - sp) + _ + (A'.length + 1 + 1) + (if M'.1 = true then 0 else 1) < 4 * (600 - sp) + _ + (A'.length + 1) + (if M.1 = true then 0 else 1)
    rw [if_neg (show ¬ M.1 = true by rw [hb]; decide)]
    split <;> omega
theorem gk_yld (I : gk_I w M S (a :: A') V F G nc sp) (hb : M.1 = false) {f : gf_T} {L : List gf_T} (hSa : S a = f :: L) (hf : f.2.1 = 1)
    (hk : gw_K w f.1 ≠ 14 ∧ gw_K w f.1 ≠ 21) {g : Nat} (hg : g < G.2.2.2) (hag : a = 8 + g) (hcl : G.2.1 g = 0) (hh : M.2.1 = 0) :
    A' ≠ [] ∧ gk_I w M (gk_su S a ((f.1, 3, f.2.2) :: L)) A' V F (upd G.1 g 1, G.2.1, upd G.2.2.1 g (nI f.1), G.2.2.2) nc sp ∧
    gk_mu M (gk_su S a ((f.1, 3, f.2.2) :: L)) A' sp < gk_mu M S (a :: A') sp := by
  have ha := gk_Ia I
  obtain ⟨i1, i2, i3, i4, i5, i6, i7⟩ := I
  obtain ⟨j1, j2⟩ := i6 a A' rfl
  obtain ⟨m1, m2, m3, m4, m5⟩ := j2.2 hb
  rw [hSa] at m1
  have hl8 : A'.length + 1 ≤ 8 := i2.2
  have hA' : A' ≠ [] := by
    rcases i2.1.1 with e | e
    · omega
    · exact e.2.2.2
  have hnA := gk_AOn i2.1 i2.2
  have hf0 : f.2.1 ≠ 0 := by omega
  have e1 := gk_sms gk_yl S a ((f.1, 3, f.2.2) :: L) 16 ha
  have e3 := gk_sms gk_wt S a ((f.1, 3, f.2.2) :: L) 16 ha
  have y1 : gk_yl ((f.1, 3, f.2.2) :: L) = gk_yl L := rfl
  have y2 : gk_yl (S a) = gk_yl L + 1 := by rw [hSa]; exact if_pos (Or.inl hf)
  have y4 : gk_wt ((f.1, 3, f.2.2) :: L) = gk_wt L + 1 := rfl
  have y5 : gk_wt (S a) = gk_wt L + 3 := by
    rw [hSa]
    show gk_wt L + _ = _
    rw [if_pos (Or.inl hf)]
  refine ⟨hA', ⟨?_, ⟨i2.1.2, by omega⟩, ?_, i4, ⟨?_, i5.2.1, i5.2.2⟩, ?_, fun z => absurd z hA'⟩, ?_⟩
  · intro s h16 hl
    have hl2 : gk_lv (a :: A') G.2.2.2 s := by
      rcases hl with h | h
      · exact Or.inl (List.mem_cons_of_mem _ h)
      · exact Or.inr h
    obtain ⟨r, hr, hs⟩ := i1 s h16 hl2
    refine ⟨r, hr, ?_⟩
    by_cases z2 : s = a
    · subst z2
      rw [gk_sus]
      rw [hSa] at hs
      exact gk_SL3 (gk_Xr V) (Nat.le_refl _) (Nat.le_refl _) id hs hf0 hk
    · rw [gk_sun z2]
      exact gk_SLm (gk_Xr V) (Nat.le_refl _) (Nat.le_refl _) id hs
  · intro i hi
    by_cases z : i = g
    · subst z
      have u1 : upd G.1 i 1 i = 1 := pk_us
      have u2 : upd G.2.2.1 i (nI f.1) i = nI f.1 := pk_us
      unfold gk_GN
      simp only [u1, u2]
      refine ⟨Or.inr (Or.inl (by trivial)), Or.inl hcl, ⟨fun z => absurd z (by decide), fun z => absurd z (by rw [← hag]; exact hnA)⟩, fun z => absurd z (by decide), fun _ => ⟨hcl, (f.1, 3, f.2.2), L, ?_, by trivial, gk_NHt m1, by trivial⟩⟩
      rw [← hag, gk_sus]
    · obtain ⟨g1, g2, g3, g4, g5⟩ := i3 i hi
      have hne : 8 + i ≠ a := by omega
      have u1 : upd G.1 g 1 i = G.1 i := pk_un z
      have u2 : upd G.2.2.1 g (nI f.1) i = G.2.2.1 i := pk_un z
      unfold gk_GN
      simp only [u1, u2]
      refine ⟨g1, g2, ⟨fun z => ?_, fun y => g3.mpr (List.mem_cons_of_mem _ y)⟩, ?_, ?_⟩
      · rcases List.mem_cons.mp (g3.mp z) with y | y
        · exact absurd y hne
        · exact y
      · intro z
        rw [gk_sun hne]
        exact g4 z
      · intro z
        rw [gk_sun hne]
        exact g5 z
  · show V.2.2.2.2 + F.2.2 + nc + _ ≤ sp
    omega
  · intro b B e
    subst e
    have hsa : ∀ s, s ∈ b :: B → s ≠ a := fun s hs e => hnA (e ▸ hs)
    refine ⟨?_, ?_⟩
    · intro s hs
      rw [gk_sun (hsa s (List.mem_cons_of_mem _ hs))]
      exact j1 s (List.mem_cons_of_mem _ hs)
    · rw [gk_sun (hsa b (List.mem_cons_self ..))]
      refine ⟨fun z => absurd z (by rw [hb]; decide), fun _ => ⟨j1 b (List.mem_cons_self ..), m2, m3, ?_, ?_⟩⟩
      · intro z
        rw [hh] at z
        exact absurd z (by decide)
      · intro z
        rw [hh] at z
        exact absurd z (by decide)
  · show 4 * (600 - sp) + _ + A'.length + (if M.1 = true then 0 else 1) < 4 * (600 - sp) + _ + (A'.length + 1) + (if M.1 = true then 0 else 1)
    omega
theorem gk_end (I : gk_I w M S (a :: A') V F G nc sp) (hb : M.1 = false) {st' : Nat → Int32} (h1 : ∀ i, 8 + i ≠ a → st' i = G.1 i) (h2 : ∀ i, 8 + i = a → st' i = 3)
    {h' s' : Int32} {x' : Int64} (hh : h' = 0 ∨ h' = 1) (hv : gk_VV F.2.2 G.2.2.2 s' x') :
    gk_I w (false, h', s', x') S A' V F (st', G.2.1, G.2.2.1, G.2.2.2) nc sp ∧ gk_mu (false, h', s', x') S A' sp < gk_mu M S (a :: A') sp := by
  obtain ⟨i1, i2, i3, i4, i5, i6, i7⟩ := I
  obtain ⟨j1, j2⟩ := i6 a A' rfl
  have hl8 : A'.length + 1 ≤ 8 := i2.2
  have hnA := gk_AOn i2.1 i2.2
  refine ⟨⟨?_, ⟨i2.1.2, by omega⟩, ?_, i4, i5, ?_, fun _ => ⟨rfl, hh, hv⟩⟩, ?_⟩
  · intro s h16 hl
    have hl2 : gk_lv (a :: A') G.2.2.2 s := by
      rcases hl with h | h
      · exact Or.inl (List.mem_cons_of_mem _ h)
      · exact Or.inr h
    exact i1 s h16 hl2
  · intro i hi
    by_cases z : 8 + i = a
    · have u1 := h2 i z
      unfold gk_GN
      simp only [u1]
      obtain ⟨g1, g2, g3, g4, g5⟩ := i3 i hi
      exact ⟨Or.inr (Or.inr (Or.inr (by trivial))), g2, ⟨fun z => absurd z (by decide), fun y => absurd y (by rw [z]; exact hnA)⟩, fun z => absurd z (by decide), fun z => absurd z (by decide)⟩
    · obtain ⟨g1, g2, g3, g4, g5⟩ := i3 i hi
      have u1 := h1 i z
      unfold gk_GN
      simp only [u1]
      refine ⟨g1, g2, ⟨fun y => ?_, fun y => g3.mpr (List.mem_cons_of_mem _ y)⟩, g4, g5⟩
      rcases List.mem_cons.mp (g3.mp y) with y | y
      · exact absurd y z
      · exact y
  · intro b B e
    subst e
    refine ⟨fun s hs => j1 s (List.mem_cons_of_mem _ hs), fun z => (by cases z), fun _ => ⟨j1 b (List.mem_cons_self ..), ?_, fun _ => hv, ?_, ?_⟩⟩
    · rcases hh with e | e
      · exact Or.inl e
      · exact Or.inr (Or.inl e)
    · intro z
      have z2 : h' = 2 ∨ h' = 3 := z
      rcases hh with e | e <;> (rw [e] at z2; exact absurd z2 (by decide))
    · intro z
      have z2 : h' = 5 := z
      rcases hh with e | e <;> (rw [e] at z2; exact absurd z2 (by decide))
  · show 4 * (600 - sp) + _ + A'.length + (if false = true then 0 else 1) < 4 * (600 - sp) + _ + (A'.length + 1) + (if M.1 = true then 0 else 1)
    rw [if_neg (by decide), if_neg (show ¬ M.1 = true by rw [hb]; decide)]
    omega
theorem gk_gs {A : List Nat} (I : gk_I w M S A V F G nc sp) {g : Nat} (hst : G.1 g ≠ 2) : gk_I w M S A V F (upd G.1 g 3, G.2.1, G.2.2.1, G.2.2.2) nc sp := by
  obtain ⟨i1, i2, i3, i4, i5, i6, i7⟩ := I
  refine ⟨i1, i2, ?_, i4, i5, i6, i7⟩
  intro i hi
  obtain ⟨g1, g2, g3, g4, g5⟩ := i3 i hi
  by_cases z : i = g
  · subst z
    have u1 : upd G.1 i 3 i = 3 := pk_us
    unfold gk_GN
    simp only [u1]
    exact ⟨Or.inr (Or.inr (Or.inr (by trivial))), g2, ⟨fun z => absurd z (by decide), fun y => absurd (g3.mpr y) hst⟩, fun z => absurd z (by decide), fun z => absurd z (by decide)⟩
  · have u1 : upd G.1 g 3 i = G.1 i := pk_un z
    unfold gk_GN
    simp only [u1]
    exact ⟨g1, g2, g3, g4, g5⟩
end
end
section
def gs_o (n : Nat) (K : Nat → Int32) : Nat → Nat := fun i => if i < n then gw_op (K i) else 0
def gs_sc (K : Nat → Int32) (e : Nat → Nat) : Nat → List Nat := tr_r [] (fun p k l => if gw_bd (K p) (tr_ix e k) then p :: l else l) (tr_pa e)
def gs_il (K : Nat → Int32) (e : Nat → Nat) : Nat → Bool := tr_r false (fun p k b => if K p = 5 then false else if K p = 14 ∧ tr_ix e k = 1 then true else b) (tr_pa e)
def gs_ow (K : Nat → Int32) (e : Nat → Nat) : Nat → Int32 := tr_r (-1) (fun p _ f => if K p = 5 then nI p else f) (tr_pa e)
theorem gs_op3 (k : Int32) : gw_op k ≤ 3 := by
  unfold gw_op
  split
  · omega
  · split
    · omega
    · split <;> omega
theorem gs_o3 (n : Nat) (K : Nat → Int32) (i : Nat) : gs_o n K i ≤ 3 := by
  unfold gs_o
  split
  · exact gs_op3 _
  · omega
theorem gs_o0 (n : Nat) (K : Nat → Int32) (i : Nat) (h : n ≤ i) : gs_o n K i = 0 := if_neg (by omega)
theorem gs_oi (n : Nat) (K : Nat → Int32) (i : Nat) (h : i < n) : gs_o n K i = gw_op (K i) := if_pos h
section
variable {o e : Nat → Nat} {K : Nat → Int32}
theorem gs_pa (h : tr_T o e) (h3 : ∀ i, o i ≤ 3) {k : Nat} (hk : k < e 0) : ∀ q, 0 < q → q ≤ k → tr_pa e q < q :=
  fun _ a b => (tr_pk h h3 a (by omega)).1
theorem gs_scp (h : tr_T o e) (h3 : ∀ i, o i ≤ 3) {k : Nat} (h0 : 0 < k) (hk : k < e 0) :
    gs_sc K e k = if gw_bd (K (tr_pa e k)) (tr_ix e k) then tr_pa e k :: gs_sc K e (tr_pa e k) else gs_sc K e (tr_pa e k) :=
  tr_rs _ _ _ k (gs_pa h h3 hk) h0
theorem gs_ilp (h : tr_T o e) (h3 : ∀ i, o i ≤ 3) {k : Nat} (h0 : 0 < k) (hk : k < e 0) :
    gs_il K e k = if K (tr_pa e k) = 5 then false else if K (tr_pa e k) = 14 ∧ tr_ix e k = 1 then true else gs_il K e (tr_pa e k) :=
  tr_rs _ _ _ k (gs_pa h h3 hk) h0
theorem gs_owp (h : tr_T o e) (h3 : ∀ i, o i ≤ 3) {k : Nat} (h0 : 0 < k) (hk : k < e 0) :
    gs_ow K e k = if K (tr_pa e k) = 5 then nI (tr_pa e k) else gs_ow K e (tr_pa e k) :=
  tr_rs _ _ _ k (gs_pa h h3 hk) h0
theorem gs_scm (h : tr_T o e) (h3 : ∀ i, o i ≤ 3) : ∀ k, k < e 0 → ∀ b, b ∈ gs_sc K e k → b < k ∧ k < e b ∧ (K b = 5 ∨ K b = 4 ∨ K b = 20) := by
  intro k
  induction k using Nat.strongRecOn with
  | ind k ih =>
    intro hk b hb
    by_cases z : k = 0
    · subst z
      cases hb
    · have hp := tr_pk h h3 (by omega) hk
      have hin := tr_cin h hp.2.1
      rw [hp.2.2] at hin
      have up : ∀ b, b ∈ gs_sc K e (tr_pa e k) → b < k ∧ k < e b ∧ (K b = 5 ∨ K b = 4 ∨ K b = 20) := by
        intro b hb
        obtain ⟨h1, h2, h3'⟩ := ih _ hp.1 (by omega) b hb
        have := tr_nest h _ b (tr_pa e k) (Nat.le_refl _) (by omega) h2
        exact ⟨by omega, by omega, h3'⟩
      rw [gs_scp h h3 (by omega) hk] at hb
      split at hb
      · rename_i hbd
        rcases List.mem_cons.mp hb with q | q
        · subst q
          refine ⟨hp.1, hin.2, ?_⟩
          rcases hbd with q | q
          · exact Or.inl q
          · exact Or.inr q.1
        · exact up b q
      · exact up b hb
theorem gs_scl (h : tr_T o e) (h3 : ∀ i, o i ≤ 3) : ∀ k, k < e 0 → (gs_sc K e k).length ≤ k := by
  intro k
  induction k using Nat.strongRecOn with
  | ind k ih =>
    intro hk
    by_cases z : k = 0
    · subst z
      exact Nat.le_refl _
    · have hp := tr_pk h h3 (by omega) hk
      have q := ih _ hp.1 (by omega)
      rw [gs_scp h h3 (by omega) hk]
      split
      · show (gs_sc K e (tr_pa e k)).length + 1 ≤ k
        omega
      · omega
end
theorem gs_make {n : Nat} {K : Nat → Int32} {e : Nat → Nat} {mn gn nv : Nat → Int32} (h : tr_T (gs_o n K) e) (h0 : e 0 = n) (hn : n ≤ 48)
    (hk : ∀ i, i < n → ∃ k, k < 27 ∧ K i = nI k)
    (hm : ∀ i, i < n → K i = 2 ∨ K i = 3 → ∃ b, b ∈ gs_sc K e i ∧ mn i = nI b)
    (hl : ∀ i, i < n → K i = 16 ∨ K i = 17 → gs_il K e i = true)
    (hy : ∀ i, i < n → K i = 22 → ∃ f, f < n ∧ gs_ow K e i = nI f ∧ gn f = 1)
    (hg : ∀ i, i < n → gn i = 0 ∨ gn i = 1) : gw_S (n, K, gs_o n K, e, gs_sc K e, gs_il K e, gs_ow K e, mn, gn, nv) := by
  have h3 := gs_o3 n K
  refine ⟨h, h0, hn, fun i hi => gs_oi n K i hi, hk, ⟨rfl, rfl, rfl⟩, ?_, hm, hl, hy, hg, fun i hi => ⟨gs_scl h h3 i (by rw [h0]; exact hi), fun b hb => (gs_scm h h3 i (by rw [h0]; exact hi) b hb).1⟩⟩
  intro p j hp hj
  have hp : p < n := hp
  have hj : j < gs_o n K p := hj
  show (gw_bd (K p) j → gs_sc K e (tr_c e p j) = p :: gs_sc K e p) ∧ (¬ gw_bd (K p) j → gs_sc K e (tr_c e p j) = gs_sc K e p) ∧
    (K p = 5 → gs_il K e (tr_c e p j) = false ∧ gs_ow K e (tr_c e p j) = nI p) ∧
    (K p ≠ 5 → gs_ow K e (tr_c e p j) = gs_ow K e p ∧ (gs_il K e (tr_c e p j) = true → (K p = 14 ∧ j = 1) ∨ gs_il K e p = true))
  have hin := tr_cin h hj
  have hne := tr_nest h _ 0 p (Nat.le_refl _) (by omega) (by omega)
  have q1 : 0 < tr_c e p j := by omega
  have q2 : tr_c e p j < e 0 := by omega
  have a := gs_scp (K := K) h h3 q1 q2
  have b := gs_ilp (K := K) h h3 q1 q2
  have c := gs_owp (K := K) h h3 q1 q2
  rw [tr_pac h hj, tr_ixc h hj (h3 p)] at a b
  rw [tr_pac h hj] at c
  refine ⟨?_, ?_, ?_, ?_⟩
  · intro z
    rw [a, if_pos z]
  · intro z
    rw [a, if_neg z]
  · intro z
    rw [b, c, if_pos z, if_pos z]
    exact ⟨rfl, rfl⟩
  · intro z
    rw [b, c, if_neg z, if_neg z]
    refine ⟨rfl, ?_⟩
    split
    · rename_i y
      exact fun _ => Or.inl y
    · exact fun y => Or.inr y
end
section
abbrev gx_T : Type := Int32 × Int32 × Int32 × Int32 × Int32 × Int64
abbrev gn_T : Type := (Nat → Int32) × (Nat → Int64) × Nat
def xr_1 (K : Nat → Int32) (z : gx_T) (f : gf_T) : Prop :=
  z.1 = nI f.1 ∧ z.2.1 = nI f.2.1 ∧ z.2.2.1 = f.2.2.1 ∧
  (f.2.1 = 2 → K f.1 ≠ 14 → (K f.1 = 21 → z.2.2.2.1 = f.2.2.2.1) ∧ (gk_hv f.2.2.2.1 → z.2.2.2.2.1 = f.2.2.2.2.1 ∧ z.2.2.2.2.2 = f.2.2.2.2.2))
def xr_L (K : Nat → Int32) (Z : Nat → gx_T) (b : Nat) : List gf_T → Prop
  | [] => True
  | f :: L => xr_1 K (Z (b + L.length)) f ∧ xr_L K Z b L
theorem xr_Lc {K : Nat → Int32} {Z Z' : Nat → gx_T} {b : Nat} : ∀ L, (∀ j, j < L.length → Z' (b + j) = Z (b + j)) → xr_L K Z b L → xr_L K Z' b L := by
  intro L
  induction L with
  | nil => exact fun _ _ => trivial
  | cons f L ih =>
    intro h hL
    refine ⟨?_, ih (fun j hj => h j (by show j < L.length + 1; omega)) hL.2⟩
    rw [h L.length (by show L.length < L.length + 1; omega)]
    exact hL.1
def xr_Z (ft fs fc ke ks : Nat → Int32) (kn : Nat → Int64) : Nat → gx_T := fun i => (ft i, fs i, fc i, ke i, ks i, kn i)
def xr_C (K : Nat → Int32) (Z : Nat → gx_T) (cn : Nat → Int32) (P : Nat → Prop) (S : Nat → List gf_T) : Prop :=
  ∀ s, s < 16 → P s → cn s = nI (S s).length ∧ xr_L K Z (48 * s) (S s)
theorem xr_ch {K : Nat → Int32} {Z Z' : Nat → gx_T} {cn cn' : Nat → Int32} {P P' : Nat → Prop} {S : Nat → List gf_T} {a : Nat} {L2 : List gf_T}
    (h : xr_C K Z cn P S) (hl : ∀ s, s < 16 → P s → (S s).length ≤ 48) (hP : ∀ s, P' s → s ≠ a → P s)
    (hZ : ∀ i, (i < 48 * a ∨ 48 * a + 48 ≤ i) → Z' i = Z i) (hc : cn' a = nI L2.length) (hc2 : ∀ s, s ≠ a → cn' s = cn s) (hL : xr_L K Z' (48 * a) L2) :
    xr_C K Z' cn' P' (gk_su S a L2) := by
  intro s hs hp
  by_cases z : s = a
  · subst z
    rw [gk_sus]
    exact ⟨hc, hL⟩
  · rw [gk_sun z, hc2 s z]
    have hp' := hP s hp z
    have h1 := h s hs hp'
    have h2 := hl s hs hp'
    refine ⟨h1.1, xr_Lc _ ?_ h1.2⟩
    intro j hj
    exact hZ _ (by omega)
theorem xr_pop {K : Nat → Int32} {Z : Nat → gx_T} {cn : Nat → Int32} {P : Nat → Prop} {S : Nat → List gf_T} {a : Nat} {f : gf_T} {L : List gf_T}
    (h : xr_C K Z cn P S) (ha : a < 16) (hp : P a) (hl : ∀ s, s < 16 → P s → (S s).length ≤ 48) (hSa : S a = f :: L) : xr_C K Z (upd cn a (nI L.length)) P (gk_su S a L) := by
  have h1 := (h a ha hp).2
  rw [hSa] at h1
  exact xr_ch h hl (fun s q _ => q) (fun _ _ => rfl) pk_us (fun s q => pk_un q) h1.2
theorem xr_zu {ft fs fc ke ks ft' fs' fc' ke' ks' : Nat → Int32} {kn kn' : Nat → Int64} {i : Nat} (h1 : ft' i = ft i) (h2 : fs' i = fs i) (h3 : fc' i = fc i) (h4 : ke' i = ke i) (h5 : ks' i = ks i) (h6 : kn' i = kn i) :
    xr_Z ft' fs' fc' ke' ks' kn' i = xr_Z ft fs fc ke ks kn i := by
  show (ft' i, fs' i, fc' i, ke' i, ks' i, kn' i) = (ft i, fs i, fc i, ke i, ks i, kn i)
  rw [h1, h2, h3, h4, h5, h6]
section
variable {K ft fs fc ke ks cn : Nat → Int32} {kn : Nat → Int64} {P : Nat → Prop} {S : Nat → List gf_T} {a : Nat} {f : gf_T} {L : List gf_T}
theorem xr_push (h : xr_C K (xr_Z ft fs fc ke ks kn) cn P S) (ha : a < 16) (hp : P a) (hl : ∀ s, s < 16 → P s → (S s).length ≤ 48) (hSa : S a = f :: L) (hL : L.length + 2 ≤ 48)
    {t st : Nat} {c k1 k2 e0 s0 : Int32} {k3 n0 : Int64}
    (hk : st = 2 → K f.1 ≠ 14 → (K f.1 = 21 → ke (48 * a + L.length) = k1) ∧ (gk_hv k1 → ks (48 * a + L.length) = k2 ∧ kn (48 * a + L.length) = k3)) :
    xr_C K (xr_Z (upd ft (48 * a + L.length + 1) (nI t)) (upd (upd fs (48 * a + L.length) (nI st)) (48 * a + L.length + 1) 0) (upd fc (48 * a + L.length + 1) c) ke ks kn) (upd cn a (nI (L.length + 2))) P
      (gk_su S a ((t, 0, c, e0, s0, n0) :: (f.1, st, f.2.2.1, k1, k2, k3) :: L)) := by
  have h1 := (h a ha hp).2
  rw [hSa] at h1
  refine xr_ch h hl (fun s q _ => q) ?_ pk_us (fun s q => pk_un q) ⟨?_, ?_, ?_⟩
  · intro i hi
    exact xr_zu (pk_un (by omega)) (by rw [pk_un (by omega), pk_un (by omega)]) (pk_un (by omega)) rfl rfl rfl
  · show xr_1 K (xr_Z _ _ _ _ _ _ (48 * a + (L.length + 1))) _
    refine ⟨?_, ?_, ?_, gk_02⟩
    · exact pk_us
    · exact pk_us
    · exact pk_us
  · refine ⟨?_, ?_, ?_, hk⟩
    · show upd ft (48 * a + L.length + 1) (nI t) (48 * a + L.length) = nI f.1
      rw [pk_un (by omega)]
      exact h1.1.1
    · show upd (upd fs (48 * a + L.length) (nI st)) (48 * a + L.length + 1) 0 (48 * a + L.length) = nI st
      rw [pk_un (by omega), pk_us]
    · show upd fc (48 * a + L.length + 1) c (48 * a + L.length) = f.2.2.1
      rw [pk_un (by omega)]
      exact h1.1.2.2.1
  · refine xr_Lc _ ?_ h1.2
    intro j hj
    exact xr_zu (pk_un (by omega)) (by rw [pk_un (by omega), pk_un (by omega)]) (pk_un (by omega)) rfl rfl rfl
theorem xr_st3 (h : xr_C K (xr_Z ft fs fc ke ks kn) cn P S) (ha : a < 16) (hp : P a) (hl : ∀ s, s < 16 → P s → (S s).length ≤ 48) (hSa : S a = f :: L) {P' : Nat → Prop} (hP : ∀ s, P' s → s ≠ a → P s) (hL : L.length + 1 ≤ 48) :
    xr_C K (xr_Z ft (upd fs (48 * a + L.length) 3) fc ke ks kn) cn P' (gk_su S a ((f.1, 3, f.2.2) :: L)) := by
  have h1 := h a ha hp
  rw [hSa] at h1
  refine xr_ch h hl hP ?_ h1.1 (fun s q => rfl) ⟨⟨h1.2.1.1, pk_us, h1.2.1.2.2.1, gk_32⟩, ?_⟩
  · intro i hi
    exact xr_zu rfl (pk_un (by omega)) rfl rfl rfl rfl
  · refine xr_Lc _ ?_ h1.2.2
    intro j hj
    exact xr_zu rfl (pk_un (by omega)) rfl rfl rfl rfl
theorem xr_lay {b t : Nat} {c e0 s0 : Int32} {n0 : Int64} (h : xr_C K (xr_Z ft fs fc ke ks kn) cn P S) (hl : ∀ s, s < 16 → P s → (S s).length ≤ 48) {P' : Nat → Prop} (hP : ∀ s, P' s → s ≠ b → P s) :
    xr_C K (xr_Z (upd ft (48 * b) (nI t)) (upd fs (48 * b) 0) (upd fc (48 * b) c) ke ks kn) (upd cn b 1) P' (gk_su S b [(t, 0, c, e0, s0, n0)]) := by
  refine xr_ch h hl hP ?_ pk_us (fun s q => pk_un q) ⟨⟨pk_us, pk_us, pk_us, gk_02⟩, trivial⟩
  intro i hi
  exact xr_zu (pk_un (by omega)) (pk_un (by omega)) (pk_un (by omega)) rfl rfl rfl
theorem xr_keep (h : xr_C K (xr_Z ft fs fc ke ks kn) cn P S) (ha : a < 16) (hp : P a) (hl : ∀ s, s < 16 → P s → (S s).length ≤ 48) (hSa : S a = f :: L) (hf : f.2.1 = 1) {k2 : Int32} {k3 : Int64} (ke' : Nat → Int32)
    (hke : ∀ i, i ≠ 48 * a + L.length → ke' i = ke i) (hL : L.length + 1 ≤ 48) :
    xr_C K (xr_Z ft fs fc ke' (upd ks (48 * a + L.length) k2) (vp_updL kn (48 * a + L.length) k3)) cn P S := by
  have h1 := h a ha hp
  rw [hSa] at h1
  have e : gk_su S a (f :: L) = S := by
    funext s
    by_cases z : s = a
    · subst z
      rw [gk_sus, hSa]
    · rw [gk_sun z]
  rw [← e]
  refine xr_ch h hl (fun s q _ => q) ?_ h1.1 (fun s q => rfl) ⟨⟨h1.2.1.1, h1.2.1.2.1, h1.2.1.2.2.1, fun z => by omega⟩, ?_⟩
  · intro i hi
    exact xr_zu rfl rfl rfl (hke i (by omega)) (pk_un (by omega)) (pk_uLn (by omega))
  · refine xr_Lc _ ?_ h1.2.2
    intro j hj
    exact xr_zu rfl rfl rfl (hke _ (by omega)) (pk_un (by omega)) (pk_uLn (by omega))
end
def xr_A (ac : Nat → Int32) (r : Nat → Nat) : List Nat → Prop
  | [] => True
  | s :: A => ac A.length = nI (r s) ∧ xr_A ac r A
theorem xr_Ac {ac ac' : Nat → Int32} {r : Nat → Nat} : ∀ A, (∀ j, j < A.length → ac' j = ac j) → xr_A ac r A → xr_A ac' r A := by
  intro A
  induction A with
  | nil => exact fun _ _ => trivial
  | cons s A ih =>
    intro h hA
    refine ⟨?_, ih (fun j hj => h j (by show j < A.length + 1; omega)) hA.2⟩
    rw [h A.length (by show A.length < A.length + 1; omega)]
    exact hA.1
def xr_g (s c : Int32) : Int32 := if s = 2 ∧ c = 1 then 4 else s
abbrev xq_T : Type := Int32 × Int32 × Int32 × Int32 × (Nat → Int32) × (Nat → Int32) × (Nat → Int32) × (Nat → Int32) × (Nat → Int32)
def xq_S (w : gw_T) (q : xq_T) : Prop := ∀ i, i < gw_n w → q.2.2.2.2.2.2.2.1 i = nI (gw_e w i)
abbrev xr_t (w : gw_T) (q : xq_T) (A : List Nat) (V : gv_T) (F : gp_T) (gc : Nat) (N : gn_T) (sp : Nat) (en vs : Int32) (vn : Int64) (ft fs fc ke ks : Nat → Int32) (kn : Nat → Int64) (cn ac gs : Nat → Int32) : SX :=
  (q.1, q.2.1, q.2.2.1, nI A.length, nI V.2.2.2.2, nI F.2.2, nI gc, en, vs, vn, nI N.2.2, nI sp, q.2.2.2.1, q.2.2.2.2.1, q.2.2.2.2.2.1, gw_K w, gw_v w, q.2.2.2.2.2.2.1, q.2.2.2.2.2.2.2.1, q.2.2.2.2.2.2.2.2, gw_mn w, gw_gn w, ft, fs, fc, ke, ks, kn, cn, ac, V.1, V.2.1, V.2.2.1, V.2.2.2.1, F.1, F.2.1, gs, N.1, N.2.1)
def xr_P (w : gw_T) (M : gm_T) (S : Nat → List gf_T) (A : List Nat) (G : gg_T) (en vs : Int32) (vn : Int64) (ft fs fc ke ks : Nat → Int32) (kn : Nat → Int64) (cn ac gs : Nat → Int32) : Prop :=
  (M.1 = false → en = M.2.1 ∧ (gk_hv M.2.1 → vs = M.2.2.1 ∧ vn = M.2.2.2)) ∧ xr_A ac (fun s => s) A ∧
  xr_C (gw_K w) (xr_Z ft fs fc ke ks kn) cn (gk_lv A G.2.2.2) S ∧ (∀ g, g < G.2.2.2 → gs g = xr_g (G.1 g) (G.2.1 g))
def xr_R (w : gw_T) (q : xq_T) (M : gm_T) (S : Nat → List gf_T) (A : List Nat) (V : gv_T) (F : gp_T) (G : gg_T) (N : gn_T) (sp : Nat) (u : SX) : Prop :=
  ∃ en vs vn ft fs fc ke ks kn cn ac gs, u = xr_t w q A V F G.2.2.2 N sp en vs vn ft fs fc ke ks kn cn ac gs ∧ xr_P w M S A G en vs vn ft fs fc ke ks kn cn ac gs
end
section
section
variable {post : SX → Prop} {f_tokenCount f_scriptSize f_saidPlace f_activationCount f_variableCount f_functionCount f_generatorCount f_ending f_valueSort : Int32} {f_valueNumber : Int64} {f_noteCount f_stepCount f_latestRun : Int32} {a_tokenKinds a_tokenOperands a_kinds a_operands a_parents a_behind a_ownFns a_meanings a_generatorFns a_frameTokens a_frameStages a_frameScopes a_keptEndings a_keptSorts : Nat → Int32} {a_keptNumbers : Nat → Int64} {a_frameCounts a_activeSlots a_variableBinders a_variableOuters a_variableSorts : Nat → Int32} {a_variableNumbers : Nat → Int64} {a_functionTokens a_functionScopes a_generatorStates a_noteSorts : Nat → Int32} {a_noteNumbers : Nat → Int64}
theorem xm_ops {posti : Int32 → Prop} : ∀ k, k < 27 → posti (nI (gw_op (nI k))) → wpX_operandCount posti (f_tokenCount, f_scriptSize, f_saidPlace, f_activationCount, f_variableCount, f_functionCount, f_generatorCount, f_ending, f_valueSort, f_valueNumber, f_noteCount, f_stepCount, f_latestRun, a_tokenKinds, a_tokenOperands, a_kinds, a_operands, a_parents, a_behind, a_ownFns, a_meanings, a_generatorFns, a_frameTokens, a_frameStages, a_frameScopes, a_keptEndings, a_keptSorts, a_keptNumbers, a_frameCounts, a_activeSlots, a_variableBinders, a_variableOuters, a_variableSorts, a_variableNumbers, a_functionTokens, a_functionScopes, a_generatorStates, a_noteSorts, a_noteNumbers) (nI k) := by
  intro k hk h
  have c : k = 0 ∨ k = 1 ∨ k = 2 ∨ k = 3 ∨ k = 4 ∨ k = 5 ∨ k = 6 ∨ k = 7 ∨ k = 8 ∨ k = 9 ∨ k = 10 ∨ k = 11 ∨ k = 12 ∨ k = 13 ∨ k = 14 ∨ k = 15 ∨ k = 16 ∨ k = 17 ∨ k = 18 ∨ k = 19 ∨ k = 20 ∨ k = 21 ∨ k = 22 ∨ k = 23 ∨ k = 24 ∨ k = 25 ∨ k = 26 := by omega
  rcases c with rfl | rfl | rfl | rfl | rfl | rfl | rfl | rfl | rfl | rfl | rfl | rfl | rfl | rfl | rfl | rfl | rfl | rfl | rfl | rfl | rfl | rfl | rfl | rfl | rfl | rfl | rfl
  all_goals
    unfold wpX_operandCount
    repeat (refine br_f (by decide) ?_)
    exact br_t (by decide) h
theorem xm_tp {d a : Nat} (hA : f_activationCount = nI (d + 1)) (hd : d < 8) (hac : a_activeSlots d = nI a) : a_activeSlots (f_activationCount - 1).toNatClampNeg = nI a := by
  rw [hA, nI_pred, nI_clamp (by omega), hac]
theorem xm_ti {d : Nat} (hA : f_activationCount = nI (d + 1)) (hd : d < 8) : vp_in (f_activationCount - 1) 8 := by
  rw [hA, nI_pred]
  exact vp_in_nI hd (by decide)
theorem xm_finish {d a l : Nat} (hA : f_activationCount = nI (d + 1)) (hd : d < 8) (hac : a_activeSlots d = nI a) (ha : a < 16) (hcn : a_frameCounts a = nI (l + 1)) {s : Int32} {x : Int64}
    (h : post (f_tokenCount, f_scriptSize, f_saidPlace, f_activationCount, f_variableCount, f_functionCount, f_generatorCount, 0, s, x, f_noteCount, f_stepCount, f_latestRun, a_tokenKinds, a_tokenOperands, a_kinds, a_operands, a_parents, a_behind, a_ownFns, a_meanings, a_generatorFns, a_frameTokens, a_frameStages, a_frameScopes, a_keptEndings, a_keptSorts, a_keptNumbers, upd a_frameCounts a (nI l), a_activeSlots, a_variableBinders, a_variableOuters, a_variableSorts, a_variableNumbers, a_functionTokens, a_functionScopes, a_generatorStates, a_noteSorts, a_noteNumbers)) : wpX_finish post (f_tokenCount, f_scriptSize, f_saidPlace, f_activationCount, f_variableCount, f_functionCount, f_generatorCount, f_ending, f_valueSort, f_valueNumber, f_noteCount, f_stepCount, f_latestRun, a_tokenKinds, a_tokenOperands, a_kinds, a_operands, a_parents, a_behind, a_ownFns, a_meanings, a_generatorFns, a_frameTokens, a_frameStages, a_frameScopes, a_keptEndings, a_keptSorts, a_keptNumbers, a_frameCounts, a_activeSlots, a_variableBinders, a_variableOuters, a_variableSorts, a_variableNumbers, a_functionTokens, a_functionScopes, a_generatorStates, a_noteSorts, a_noteNumbers) s x := by
  have e5 := xm_tp hA hd hac
  have i2 : vp_in (a_activeSlots (f_activationCount - 1).toNatClampNeg) 16 := by rw [e5]; exact vp_in_nI ha (by decide)
  exact ⟨xm_ti hA hd, i2, i2, nm_r (by rw [e5, nI_clamp (by omega), hcn, nI_pred]) h⟩
theorem xm_finishThrowing {d a l : Nat} (hA : f_activationCount = nI (d + 1)) (hd : d < 8) (hac : a_activeSlots d = nI a) (ha : a < 16) (hcn : a_frameCounts a = nI (l + 1)) {s : Int32}
    (h : post (f_tokenCount, f_scriptSize, f_saidPlace, f_activationCount, f_variableCount, f_functionCount, f_generatorCount, 1, 1, s.toInt64, f_noteCount, f_stepCount, f_latestRun, a_tokenKinds, a_tokenOperands, a_kinds, a_operands, a_parents, a_behind, a_ownFns, a_meanings, a_generatorFns, a_frameTokens, a_frameStages, a_frameScopes, a_keptEndings, a_keptSorts, a_keptNumbers, upd a_frameCounts a (nI l), a_activeSlots, a_variableBinders, a_variableOuters, a_variableSorts, a_variableNumbers, a_functionTokens, a_functionScopes, a_generatorStates, a_noteSorts, a_noteNumbers)) : wpX_finishThrowing post (f_tokenCount, f_scriptSize, f_saidPlace, f_activationCount, f_variableCount, f_functionCount, f_generatorCount, f_ending, f_valueSort, f_valueNumber, f_noteCount, f_stepCount, f_latestRun, a_tokenKinds, a_tokenOperands, a_kinds, a_operands, a_parents, a_behind, a_ownFns, a_meanings, a_generatorFns, a_frameTokens, a_frameStages, a_frameScopes, a_keptEndings, a_keptSorts, a_keptNumbers, a_frameCounts, a_activeSlots, a_variableBinders, a_variableOuters, a_variableSorts, a_variableNumbers, a_functionTokens, a_functionScopes, a_generatorStates, a_noteSorts, a_noteNumbers) s := by
  have e5 := xm_tp hA hd hac
  have i2 : vp_in (a_activeSlots (f_activationCount - 1).toNatClampNeg) 16 := by rw [e5]; exact vp_in_nI ha (by decide)
  exact ⟨xm_ti hA hd, i2, i2, nm_r (by rw [e5, nI_clamp (by omega), hcn, nI_pred]) h⟩
theorem xm_finishAs {d a l : Nat} (hA : f_activationCount = nI (d + 1)) (hd : d < 8) (hac : a_activeSlots d = nI a) (ha : a < 16) (hcn : a_frameCounts a = nI (l + 1)) {s : Int32}
    (h : post (f_tokenCount, f_scriptSize, f_saidPlace, f_activationCount, f_variableCount, f_functionCount, f_generatorCount, s, f_valueSort, f_valueNumber, f_noteCount, f_stepCount, f_latestRun, a_tokenKinds, a_tokenOperands, a_kinds, a_operands, a_parents, a_behind, a_ownFns, a_meanings, a_generatorFns, a_frameTokens, a_frameStages, a_frameScopes, a_keptEndings, a_keptSorts, a_keptNumbers, upd a_frameCounts a (nI l), a_activeSlots, a_variableBinders, a_variableOuters, a_variableSorts, a_variableNumbers, a_functionTokens, a_functionScopes, a_generatorStates, a_noteSorts, a_noteNumbers)) : wpX_finishAs post (f_tokenCount, f_scriptSize, f_saidPlace, f_activationCount, f_variableCount, f_functionCount, f_generatorCount, f_ending, f_valueSort, f_valueNumber, f_noteCount, f_stepCount, f_latestRun, a_tokenKinds, a_tokenOperands, a_kinds, a_operands, a_parents, a_behind, a_ownFns, a_meanings, a_generatorFns, a_frameTokens, a_frameStages, a_frameScopes, a_keptEndings, a_keptSorts, a_keptNumbers, a_frameCounts, a_activeSlots, a_variableBinders, a_variableOuters, a_variableSorts, a_variableNumbers, a_functionTokens, a_functionScopes, a_generatorStates, a_noteSorts, a_noteNumbers) s := by
  have e5 := xm_tp hA hd hac
  have i2 : vp_in (a_activeSlots (f_activationCount - 1).toNatClampNeg) 16 := by rw [e5]; exact vp_in_nI ha (by decide)
  exact ⟨xm_ti hA hd, i2, i2, nm_r (by rw [e5, nI_clamp (by omega), hcn, nI_pred]) h⟩
theorem xm_wop {d a l k : Nat} (hA : f_activationCount = nI (d + 1)) (hd : d < 8) (hac : a_activeSlots d = nI a) (ha : a < 16) (hcn : a_frameCounts a = nI (l + 1)) (hk : k + 1 < 768) {st t c : Int32}
    (h : post (f_tokenCount, f_scriptSize, f_saidPlace, f_activationCount, f_variableCount, f_functionCount, f_generatorCount, f_ending, f_valueSort, f_valueNumber, f_noteCount, f_stepCount, f_latestRun, a_tokenKinds, a_tokenOperands, a_kinds, a_operands, a_parents, a_behind, a_ownFns, a_meanings, a_generatorFns, upd a_frameTokens (k + 1) t, upd (upd a_frameStages k st) (k + 1) 0, upd a_frameScopes (k + 1) c, a_keptEndings, a_keptSorts, a_keptNumbers, upd a_frameCounts a (nI (l + 2)), a_activeSlots, a_variableBinders, a_variableOuters, a_variableSorts, a_variableNumbers, a_functionTokens, a_functionScopes, a_generatorStates, a_noteSorts, a_noteNumbers)) :
    wpX_workOutPart post (f_tokenCount, f_scriptSize, f_saidPlace, f_activationCount, f_variableCount, f_functionCount, f_generatorCount, f_ending, f_valueSort, f_valueNumber, f_noteCount, f_stepCount, f_latestRun, a_tokenKinds, a_tokenOperands, a_kinds, a_operands, a_parents, a_behind, a_ownFns, a_meanings, a_generatorFns, a_frameTokens, a_frameStages, a_frameScopes, a_keptEndings, a_keptSorts, a_keptNumbers, a_frameCounts, a_activeSlots, a_variableBinders, a_variableOuters, a_variableSorts, a_variableNumbers, a_functionTokens, a_functionScopes, a_generatorStates, a_noteSorts, a_noteNumbers) (nI k) st t c := by
  have e5 := xm_tp hA hd hac
  have i2 : vp_in (a_activeSlots (f_activationCount - 1).toNatClampNeg) 16 := by rw [e5]; exact vp_in_nI ha (by decide)
  have i3 : vp_in (nI k) 768 := vp_in_nI (by omega) (by decide)
  have i4 : vp_in (nI k + 1) 768 := by rw [nI_1]; exact vp_in_nI (by omega) (by decide)
  have e6 : (nI k).toNatClampNeg = k := nI_clamp (by omega)
  have e7 : (nI k + 1).toNatClampNeg = k + 1 := by rw [nI_1]; exact nI_clamp (by omega)
  exact ⟨i3, nm_r (by rw [e6]) ⟨i4, nm_r (by rw [e7]) ⟨i4, nm_r (by rw [e7]) ⟨i4, nm_r (by rw [e7]) ⟨xm_ti hA hd, i2, i2, nm_r (by rw [e5, nI_clamp (by omega), hcn, nI_1]) h⟩⟩⟩⟩⟩
theorem xm_newVar {postv : Int32 → SX → Prop} {v : Nat} (hv : f_variableCount = nI v) (h6 : v < 600) {b c : Int32}
    (h : postv (nI v) (f_tokenCount, f_scriptSize, f_saidPlace, f_activationCount, nI (v + 1), f_functionCount, f_generatorCount, f_ending, f_valueSort, f_valueNumber, f_noteCount, f_stepCount, f_latestRun, a_tokenKinds, a_tokenOperands, a_kinds, a_operands, a_parents, a_behind, a_ownFns, a_meanings, a_generatorFns, a_frameTokens, a_frameStages, a_frameScopes, a_keptEndings, a_keptSorts, a_keptNumbers, a_frameCounts, a_activeSlots, upd a_variableBinders v b, upd a_variableOuters v c, upd a_variableSorts v f_valueSort, vp_updL a_variableNumbers v f_valueNumber, a_functionTokens, a_functionScopes, a_generatorStates, a_noteSorts, a_noteNumbers)) :
    wpX_newVariable postv (f_tokenCount, f_scriptSize, f_saidPlace, f_activationCount, f_variableCount, f_functionCount, f_generatorCount, f_ending, f_valueSort, f_valueNumber, f_noteCount, f_stepCount, f_latestRun, a_tokenKinds, a_tokenOperands, a_kinds, a_operands, a_parents, a_behind, a_ownFns, a_meanings, a_generatorFns, a_frameTokens, a_frameStages, a_frameScopes, a_keptEndings, a_keptSorts, a_keptNumbers, a_frameCounts, a_activeSlots, a_variableBinders, a_variableOuters, a_variableSorts, a_variableNumbers, a_functionTokens, a_functionScopes, a_generatorStates, a_noteSorts, a_noteNumbers) b c := by
  subst hv
  have i : vp_in (nI v) 600 := vp_in_nI h6 (by decide)
  have e : (nI v).toNatClampNeg = v := nI_clamp (by omega)
  exact ⟨i, nm_r (by rw [e]) ⟨i, nm_r (by rw [e]) ⟨i, nm_r (by rw [e]) ⟨i, nm_r (by rw [e]) (nm_r (nI_1 v) h)⟩⟩⟩⟩
theorem xm_keep {k : Nat} (hk : k < 768) (h : post (f_tokenCount, f_scriptSize, f_saidPlace, f_activationCount, f_variableCount, f_functionCount, f_generatorCount, f_ending, f_valueSort, f_valueNumber, f_noteCount, f_stepCount, f_latestRun, a_tokenKinds, a_tokenOperands, a_kinds, a_operands, a_parents, a_behind, a_ownFns, a_meanings, a_generatorFns, a_frameTokens, a_frameStages, a_frameScopes, a_keptEndings, upd a_keptSorts k f_valueSort, vp_updL a_keptNumbers k f_valueNumber, a_frameCounts, a_activeSlots, a_variableBinders, a_variableOuters, a_variableSorts, a_variableNumbers, a_functionTokens, a_functionScopes, a_generatorStates, a_noteSorts, a_noteNumbers)) : wpX_keepValue post (f_tokenCount, f_scriptSize, f_saidPlace, f_activationCount, f_variableCount, f_functionCount, f_generatorCount, f_ending, f_valueSort, f_valueNumber, f_noteCount, f_stepCount, f_latestRun, a_tokenKinds, a_tokenOperands, a_kinds, a_operands, a_parents, a_behind, a_ownFns, a_meanings, a_generatorFns, a_frameTokens, a_frameStages, a_frameScopes, a_keptEndings, a_keptSorts, a_keptNumbers, a_frameCounts, a_activeSlots, a_variableBinders, a_variableOuters, a_variableSorts, a_variableNumbers, a_functionTokens, a_functionScopes, a_generatorStates, a_noteSorts, a_noteNumbers) (nI k) := by
  have i : vp_in (nI k) 768 := vp_in_nI hk (by decide)
  have e : (nI k).toNatClampNeg = k := nI_clamp (by omega)
  exact ⟨i, nm_r (by rw [e]) ⟨i, nm_r (by rw [e]) h⟩⟩
theorem xm_lay {b : Nat} (hb : b < 16) {t c : Int32}
    (h : post (f_tokenCount, f_scriptSize, f_saidPlace, f_activationCount, f_variableCount, f_functionCount, f_generatorCount, f_ending, f_valueSort, f_valueNumber, f_noteCount, f_stepCount, f_latestRun, a_tokenKinds, a_tokenOperands, a_kinds, a_operands, a_parents, a_behind, a_ownFns, a_meanings, a_generatorFns, upd a_frameTokens (48 * b) t, upd a_frameStages (48 * b) 0, upd a_frameScopes (48 * b) c, a_keptEndings, a_keptSorts, a_keptNumbers, upd a_frameCounts b 1, a_activeSlots, a_variableBinders, a_variableOuters, a_variableSorts, a_variableNumbers, a_functionTokens, a_functionScopes, a_generatorStates, a_noteSorts, a_noteNumbers)) : wpX_layFirstFrame post (f_tokenCount, f_scriptSize, f_saidPlace, f_activationCount, f_variableCount, f_functionCount, f_generatorCount, f_ending, f_valueSort, f_valueNumber, f_noteCount, f_stepCount, f_latestRun, a_tokenKinds, a_tokenOperands, a_kinds, a_operands, a_parents, a_behind, a_ownFns, a_meanings, a_generatorFns, a_frameTokens, a_frameStages, a_frameScopes, a_keptEndings, a_keptSorts, a_keptNumbers, a_frameCounts, a_activeSlots, a_variableBinders, a_variableOuters, a_variableSorts, a_variableNumbers, a_functionTokens, a_functionScopes, a_generatorStates, a_noteSorts, a_noteNumbers) (nI b) t c := by
  have e0 : nI b * 48 = nI (48 * b) := by
    rw [Nat.mul_comm]
    exact pk_mul b 48
  have i : vp_in (nI (48 * b)) 768 := vp_in_nI (by omega) (by decide)
  have e : (nI (48 * b)).toNatClampNeg = 48 * b := nI_clamp (by omega)
  exact nm_r e0 ⟨i, nm_r (by rw [e]) ⟨i, nm_r (by rw [e]) ⟨i, nm_r (by rw [e]) ⟨vp_in_nI hb (by decide), nm_r (by rw [nI_clamp (by omega)]) h⟩⟩⟩⟩
theorem xm_enter {d : Nat} (hA : f_activationCount = nI d) (hd : d < 8) {b : Int32} (h : post (f_tokenCount, f_scriptSize, f_saidPlace, nI (d + 1), f_variableCount, f_functionCount, f_generatorCount, f_ending, f_valueSort, f_valueNumber, f_noteCount, f_stepCount, f_latestRun, a_tokenKinds, a_tokenOperands, a_kinds, a_operands, a_parents, a_behind, a_ownFns, a_meanings, a_generatorFns, a_frameTokens, a_frameStages, a_frameScopes, a_keptEndings, a_keptSorts, a_keptNumbers, a_frameCounts, upd a_activeSlots d b, a_variableBinders, a_variableOuters, a_variableSorts, a_variableNumbers, a_functionTokens, a_functionScopes, a_generatorStates, a_noteSorts, a_noteNumbers)) : wpX_enterSlot post (f_tokenCount, f_scriptSize, f_saidPlace, f_activationCount, f_variableCount, f_functionCount, f_generatorCount, f_ending, f_valueSort, f_valueNumber, f_noteCount, f_stepCount, f_latestRun, a_tokenKinds, a_tokenOperands, a_kinds, a_operands, a_parents, a_behind, a_ownFns, a_meanings, a_generatorFns, a_frameTokens, a_frameStages, a_frameScopes, a_keptEndings, a_keptSorts, a_keptNumbers, a_frameCounts, a_activeSlots, a_variableBinders, a_variableOuters, a_variableSorts, a_variableNumbers, a_functionTokens, a_functionScopes, a_generatorStates, a_noteSorts, a_noteNumbers) b := by
  subst hA
  exact ⟨vp_in_nI hd (by decide), nm_r (by rw [nI_clamp (by omega)]) (nm_r (nI_1 d) h)⟩
theorem xm_start {d : Nat} (hA : f_activationCount = nI d) (hd : d < 8) {t c : Int32}
    (h : post (f_tokenCount, f_scriptSize, f_saidPlace, nI (d + 1), f_variableCount, f_functionCount, f_generatorCount, f_ending, f_valueSort, f_valueNumber, f_noteCount, f_stepCount, f_latestRun, a_tokenKinds, a_tokenOperands, a_kinds, a_operands, a_parents, a_behind, a_ownFns, a_meanings, a_generatorFns, upd a_frameTokens (48 * d) t, upd a_frameStages (48 * d) 0, upd a_frameScopes (48 * d) c, a_keptEndings, a_keptSorts, a_keptNumbers, upd a_frameCounts d 1, upd a_activeSlots d (nI d), a_variableBinders, a_variableOuters, a_variableSorts, a_variableNumbers, a_functionTokens, a_functionScopes, a_generatorStates, a_noteSorts, a_noteNumbers)) : wpX_startBody post (f_tokenCount, f_scriptSize, f_saidPlace, f_activationCount, f_variableCount, f_functionCount, f_generatorCount, f_ending, f_valueSort, f_valueNumber, f_noteCount, f_stepCount, f_latestRun, a_tokenKinds, a_tokenOperands, a_kinds, a_operands, a_parents, a_behind, a_ownFns, a_meanings, a_generatorFns, a_frameTokens, a_frameStages, a_frameScopes, a_keptEndings, a_keptSorts, a_keptNumbers, a_frameCounts, a_activeSlots, a_variableBinders, a_variableOuters, a_variableSorts, a_variableNumbers, a_functionTokens, a_functionScopes, a_generatorStates, a_noteSorts, a_noteNumbers) t c := by
  subst hA
  unfold wpX_startBody
  refine xm_lay (by omega) ?_
  exact xm_enter rfl hd h
theorem xm_num {posti : Int32 → Prop} {s : Int32} (h : posti (if s = 1 ∨ s = 2 then 1 else 0)) : wpX_isNumber posti (f_tokenCount, f_scriptSize, f_saidPlace, f_activationCount, f_variableCount, f_functionCount, f_generatorCount, f_ending, f_valueSort, f_valueNumber, f_noteCount, f_stepCount, f_latestRun, a_tokenKinds, a_tokenOperands, a_kinds, a_operands, a_parents, a_behind, a_ownFns, a_meanings, a_generatorFns, a_frameTokens, a_frameStages, a_frameScopes, a_keptEndings, a_keptSorts, a_keptNumbers, a_frameCounts, a_activeSlots, a_variableBinders, a_variableOuters, a_variableSorts, a_variableNumbers, a_functionTokens, a_functionScopes, a_generatorStates, a_noteSorts, a_noteNumbers) s := by
  refine br_c (fun c => ?_) (fun c => br_c (fun d => ?_) (fun d => ?_))
  · rw [if_pos (Or.inl c)] at h; exact h
  · rw [if_pos (Or.inr d)] at h; exact h
  · rw [if_neg (by intro z; rcases z with z | z; exact c z; exact d z)] at h; exact h
end
def gk_tr (s : Int32) (x : Int64) : Bool := if s = 1 ∨ s = 2 then decide (x ≠ 0) else decide (s ≠ 0)
section
variable {post : SX → Prop} {f_tokenCount f_scriptSize f_saidPlace f_activationCount f_variableCount f_functionCount f_generatorCount f_ending f_valueSort : Int32} {f_valueNumber : Int64} {f_noteCount f_stepCount f_latestRun : Int32} {a_tokenKinds a_tokenOperands a_kinds a_operands a_parents a_behind a_ownFns a_meanings a_generatorFns a_frameTokens a_frameStages a_frameScopes a_keptEndings a_keptSorts : Nat → Int32} {a_keptNumbers : Nat → Int64} {a_frameCounts a_activeSlots a_variableBinders a_variableOuters a_variableSorts : Nat → Int32} {a_variableNumbers : Nat → Int64} {a_functionTokens a_functionScopes a_generatorStates a_noteSorts : Nat → Int32} {a_noteNumbers : Nat → Int64}
theorem xm_true {posti : Int32 → Prop} {s : Int32} {x : Int64} (hs : f_valueSort = s) (hx : f_valueNumber = x) (h : posti (if gk_tr s x = true then 1 else 0)) : wpX_isTrue posti (f_tokenCount, f_scriptSize, f_saidPlace, f_activationCount, f_variableCount, f_functionCount, f_generatorCount, f_ending, f_valueSort, f_valueNumber, f_noteCount, f_stepCount, f_latestRun, a_tokenKinds, a_tokenOperands, a_kinds, a_operands, a_parents, a_behind, a_ownFns, a_meanings, a_generatorFns, a_frameTokens, a_frameStages, a_frameScopes, a_keptEndings, a_keptSorts, a_keptNumbers, a_frameCounts, a_activeSlots, a_variableBinders, a_variableOuters, a_variableSorts, a_variableNumbers, a_functionTokens, a_functionScopes, a_generatorStates, a_noteSorts, a_noteNumbers) := by
  subst hs hx
  unfold wpX_isTrue
  refine xm_num ?_
  by_cases c : f_valueSort = 1 ∨ f_valueSort = 2
  · rw [if_pos c]
    refine br_f (by decide) (br_c (fun z => ?_) (fun z => ?_))
    · rw [gk_tr, if_pos c, z] at h; exact h
    · rw [gk_tr, if_pos c, decide_eq_true z] at h; exact h
  · rw [if_neg c]
    refine br_t rfl (br_c (fun z => ?_) (fun z => ?_))
    · rw [gk_tr, if_neg c, z] at h; exact h
    · rw [gk_tr, if_neg c, decide_eq_true z] at h; exact h
end
def gk_fi (V : gv_T) (b : Nat) : List Nat → Int32 → Nat
  | [], _ => 0
  | b' :: l, c => if b' = b then c.toNatClampNeg else gk_fi V b l (V.2.1 c.toNatClampNeg)
theorem gk_fil {V : gv_T} {b : Nat} (hv : V.2.2.2.2 < 2 ^ 31) : ∀ l c, gk_CH V l c → b ∈ l → gk_fi V b l c < V.2.2.2.2 := by
  intro l
  induction l with
  | nil => intro c _ h; cases h
  | cons b' l ih =>
    intro c hc hb
    obtain ⟨i, hi, rfl, h1, h2⟩ := hc
    show (if b' = b then (nI i).toNatClampNeg else gk_fi V b l (V.2.1 (nI i).toNatClampNeg)) < _
    rw [nI_clamp (by omega)]
    split
    · exact hi
    · rename_i z
      rcases List.mem_cons.mp hb with e | e
      · exact absurd e.symm z
      · exact ih _ h2 e
section
variable {f_tokenCount f_scriptSize f_saidPlace f_activationCount f_variableCount f_functionCount f_generatorCount f_ending f_valueSort : Int32} {f_valueNumber : Int64} {f_noteCount f_stepCount f_latestRun : Int32} {a_tokenKinds a_tokenOperands a_kinds a_operands a_parents a_behind a_ownFns a_meanings a_generatorFns a_frameTokens a_frameStages a_frameScopes a_keptEndings a_keptSorts : Nat → Int32} {a_keptNumbers : Nat → Int64} {a_frameCounts a_activeSlots a_variableBinders a_variableOuters a_variableSorts : Nat → Int32} {a_variableNumbers : Nat → Int64} {a_functionTokens a_functionScopes a_generatorStates a_noteSorts : Nat → Int32} {a_noteNumbers : Nat → Int64}
theorem xm_find5 {V : gv_T} {b : Nat} {post : Int32 → Prop} (hv : V.2.2.2.2 ≤ 600) (hb48 : b < 48) (e1 : a_variableBinders = V.1) (e2 : a_variableOuters = V.2.1) : ∀ l c n m, gk_CH V l c → b ∈ l → (∀ x, x ∈ l → x < 48) → m + l.length ≤ 48 → l.length < n →
    post (nI (gk_fi V b l c)) → wX_findVariable_5 post (nI b) f_tokenCount f_scriptSize f_saidPlace f_activationCount f_variableCount f_functionCount f_generatorCount f_ending f_valueSort f_valueNumber f_noteCount f_stepCount f_latestRun a_tokenKinds a_tokenOperands a_kinds a_operands a_parents a_behind a_ownFns a_meanings a_generatorFns a_frameTokens a_frameStages a_frameScopes a_keptEndings a_keptSorts a_keptNumbers a_frameCounts a_activeSlots a_variableBinders a_variableOuters a_variableSorts a_variableNumbers a_functionTokens a_functionScopes a_generatorStates a_noteSorts a_noteNumbers n c (nI m) := by
  intro l
  induction l with
  | nil => intro c n m _ h; cases h
  | cons b' l ih =>
    intro c n m hc hb h48 hm hn h
    obtain ⟨n, rfl⟩ : ∃ x, n = x + 1 := ⟨n - 1, by omega⟩
    obtain ⟨i, hi, rfl, h1, h2⟩ := hc
    have hm2 : m + (l.length + 1) ≤ 48 := hm
    have hn2 : l.length + 1 < n + 1 := hn
    have ec : (nI i).toNatClampNeg = i := nI_clamp (by omega)
    have h : post (nI (if b' = b then (nI i).toNatClampNeg else gk_fi V b l (V.2.1 (nI i).toNatClampNeg))) := h
    rw [ec] at h
    have iv : vp_in (nI i) 600 := vp_in_nI (by omega) (by decide)
    refine br_f (nI_ge (b := 48) (by omega) (by decide)) ⟨iv, ?_⟩
    have eb : a_variableBinders (nI i).toNatClampNeg = nI b' := by rw [ec, e1]; exact h1
    by_cases z : b' = b
    · rw [if_pos z] at h
      exact br_t (by rw [eb, z]) h
    · rw [if_neg z] at h
      refine br_f ?_ ⟨iv, nm_r (e' := V.2.1 i) (by rw [ec, e2]) (nm_r (nI_1 m) ?_)⟩
      · rw [eb, nI_eq (by have := h48 b' (List.mem_cons_self ..); omega) (by omega)]
        exact z
      · rcases List.mem_cons.mp hb with e | e
        · exact absurd e.symm z
        · exact ih _ n (m + 1) h2 e (fun x hx => h48 x (List.mem_cons_of_mem _ hx)) (by omega) (by omega) h
theorem xm_find {V : gv_T} {b : Nat} {post : Int32 → Prop} {l : List Nat} {c : Int32} (hv : V.2.2.2.2 ≤ 600) (hb48 : b < 48) (e1 : a_variableBinders = V.1) (e2 : a_variableOuters = V.2.1) (hc : gk_CH V l c) (hb : b ∈ l) (h48 : ∀ x, x ∈ l → x < 48) (hl : l.length ≤ 48)
    (h : post (nI (gk_fi V b l c))) : wpX_findVariable post (f_tokenCount, f_scriptSize, f_saidPlace, f_activationCount, f_variableCount, f_functionCount, f_generatorCount, f_ending, f_valueSort, f_valueNumber, f_noteCount, f_stepCount, f_latestRun, a_tokenKinds, a_tokenOperands, a_kinds, a_operands, a_parents, a_behind, a_ownFns, a_meanings, a_generatorFns, a_frameTokens, a_frameStages, a_frameScopes, a_keptEndings, a_keptSorts, a_keptNumbers, a_frameCounts, a_activeSlots, a_variableBinders, a_variableOuters, a_variableSorts, a_variableNumbers, a_functionTokens, a_functionScopes, a_generatorStates, a_noteSorts, a_noteNumbers) (nI b) c :=
  ⟨l.length + 1, xm_find5 hv hb48 e1 e2 l c (l.length + 1) 0 hc hb h48 (by omega) (by omega) h⟩
end
end
section
def xo_B (w : gw_T) (S : Nat → List gf_T) (A' : List Nat) (a : Nat) (f : gf_T) (L : List gf_T) (G : gg_T) (ft fs fc ke ks : Nat → Int32) (kn : Nat → Int64) (cn ac gs : Nat → Int32) : Prop :=
  a < 16 ∧ A'.length < 8 ∧ (∀ s, s < 16 → gk_lv (a :: A') G.2.2.2 s → (S s).length ≤ 48) ∧ S a = f :: L ∧ xr_A ac (fun s => s) (a :: A') ∧
  xr_C (gw_K w) (xr_Z ft fs fc ke ks kn) cn (gk_lv (a :: A') G.2.2.2) S ∧ (∀ g, g < G.2.2.2 → gs g = xr_g (G.1 g) (G.2.1 g))
section
variable {w : gw_T} {q : xq_T} {M M' : gm_T} {S : Nat → List gf_T} {a : Nat} {A' : List Nat} {V : gv_T} {F : gp_T} {G : gg_T} {N : gn_T} {nc sp : Nat} {u : SX} {f : gf_T} {L : List gf_T} {post : SX → Prop}
variable {en vs : Int32} {vn : Int64} {ft fs fc ke ks : Nat → Int32} {kn : Nat → Int64} {cn ac gs : Nat → Int32}
theorem xo_len (hw : gw_S w) {A : List Nat} (I : gk_I w M S A V F G nc sp) : ∀ s, s < 16 → gk_lv A G.2.2.2 s → (S s).length ≤ 48 := by
  intro s h1 h2
  obtain ⟨r, hr, hs⟩ := I.1 s h1 h2
  exact gk_SLl hw hs
theorem xo_mk (hw : gw_S w) (I : gk_I w M S (a :: A') V F G nc sp) (hSa : S a = f :: L) (hP : xr_P w M S (a :: A') G en vs vn ft fs fc ke ks kn cn ac gs) : xo_B w S A' a f L G ft fs fc ke ks kn cn ac gs :=
  ⟨gk_Ia I, I.2.1.2, xo_len hw I, hSa, hP.2.1, hP.2.2.1, hP.2.2.2⟩
theorem xo_lv : gk_lv (a :: A') G.2.2.2 a := Or.inl (List.mem_cons_self ..)
theorem xo_cn (B : xo_B w S A' a f L G ft fs fc ke ks kn cn ac gs) : cn a = nI (L.length + 1) := by
  have h := (B.2.2.2.2.2.1 a B.1 xo_lv).1
  rw [B.2.2.2.1] at h
  exact h
theorem xo_f (B : xo_B w S A' a f L G ft fs fc ke ks kn cn ac gs) : xr_1 (gw_K w) (xr_Z ft fs fc ke ks kn (48 * a + L.length)) f := by
  have h := (B.2.2.2.2.2.1 a B.1 xo_lv).2
  rw [B.2.2.2.1] at h
  exact h.1
theorem xo_l (B : xo_B w S A' a f L G ft fs fc ke ks kn cn ac gs) : L.length + 1 ≤ 48 := by
  have h := B.2.2.1 a B.1 xo_lv
  rw [B.2.2.2.1] at h
  exact h
theorem xs_fas (B : xo_B w S A' a f L G ft fs fc ke ks kn cn ac gs) {s : Int32} (hm : M'.1 = false → s = M'.2.1 ∧ (gk_hv M'.2.1 → vs = M'.2.2.1 ∧ vn = M'.2.2.2))
    (hp : ∀ u', xr_R w q M' (gk_su S a L) (a :: A') V F G N sp u' → post u') : wpX_finishAs post (xr_t w q (a :: A') V F G.2.2.2 N sp en vs vn ft fs fc ke ks kn cn ac gs) s :=
  xm_finishAs (d := A'.length) (a := a) (l := L.length) rfl B.2.1 B.2.2.2.2.1.1 B.1 (xo_cn B)
    (hp _ ⟨_, _, _, _, _, _, _, _, _, _, _, _, rfl, hm, B.2.2.2.2.1, xr_pop B.2.2.2.2.2.1 B.1 xo_lv B.2.2.1 B.2.2.2.1, B.2.2.2.2.2.2⟩)
theorem xs_fin (B : xo_B w S A' a f L G ft fs fc ke ks kn cn ac gs) {s : Int32} {x : Int64}
    (hp : ∀ u', xr_R w q (false, 0, s, x) (gk_su S a L) (a :: A') V F G N sp u' → post u') : wpX_finish post (xr_t w q (a :: A') V F G.2.2.2 N sp en vs vn ft fs fc ke ks kn cn ac gs) s x :=
  xm_finish (d := A'.length) (a := a) (l := L.length) rfl B.2.1 B.2.2.2.2.1.1 B.1 (xo_cn B)
    (hp _ ⟨_, _, _, _, _, _, _, _, _, _, _, _, rfl, fun _ => ⟨rfl, fun _ => ⟨rfl, rfl⟩⟩, B.2.2.2.2.1, xr_pop B.2.2.2.2.2.1 B.1 xo_lv B.2.2.1 B.2.2.2.1, B.2.2.2.2.2.2⟩)
theorem xs_thr (B : xo_B w S A' a f L G ft fs fc ke ks kn cn ac gs) {s : Int32}
    (hp : ∀ u', xr_R w q (false, 1, 1, s.toInt64) (gk_su S a L) (a :: A') V F G N sp u' → post u') : wpX_finishThrowing post (xr_t w q (a :: A') V F G.2.2.2 N sp en vs vn ft fs fc ke ks kn cn ac gs) s :=
  xm_finishThrowing (d := A'.length) (a := a) (l := L.length) rfl B.2.1 B.2.2.2.2.1.1 B.1 (xo_cn B)
    (hp _ ⟨_, _, _, _, _, _, _, _, _, _, _, _, rfl, fun _ => ⟨rfl, fun _ => ⟨rfl, rfl⟩⟩, B.2.2.2.2.1, xr_pop B.2.2.2.2.2.1 B.1 xo_lv B.2.2.1 B.2.2.2.1, B.2.2.2.2.2.2⟩)
theorem xs_wop (B : xo_B w S A' a f L G ft fs fc ke ks kn cn ac gs) (hL : L.length + 2 ≤ 48) {t st : Nat} {c k1 k2 e0 s0 : Int32} {k3 n0 : Int64}
    (hk : st = 2 → gw_K w f.1 ≠ 14 → (gw_K w f.1 = 21 → ke (48 * a + L.length) = k1) ∧ (gk_hv k1 → ks (48 * a + L.length) = k2 ∧ kn (48 * a + L.length) = k3))
    (hm : M'.1 = true) {stt tt : Int32} (h1 : stt = nI st) (h2 : tt = nI t) (hp : ∀ u', xr_R w q M' (gk_su S a ((t, 0, c, e0, s0, n0) :: (f.1, st, f.2.2.1, k1, k2, k3) :: L)) (a :: A') V F G N sp u' → post u') :
    wpX_workOutPart post (xr_t w q (a :: A') V F G.2.2.2 N sp en vs vn ft fs fc ke ks kn cn ac gs) (nI (48 * a + L.length)) stt tt c := by
  subst h1 h2
  exact xm_wop (d := A'.length) (a := a) (l := L.length) rfl B.2.1 B.2.2.2.2.1.1 B.1 (xo_cn B) (by have := B.1; omega)
    (hp _ ⟨_, _, _, _, _, _, _, _, _, _, _, _, rfl, fun z => absurd (hm.symm.trans z) (by decide), B.2.2.2.2.1, xr_push B.2.2.2.2.2.1 B.1 xo_lv B.2.2.1 B.2.2.2.1 hL hk, B.2.2.2.2.2.2⟩)
theorem xs_in (hw : gw_S w) (B : xo_B w S A' a f L G ft fs fc ke ks kn cn ac gs) (hn : f.1 < gw_n w) {kd : Int32} {sg : Nat} (hk : gw_K w f.1 = kd) (hs : f.2.1 = sg) :
    vp_in (nI (48 * a + L.length)) 768 ∧ vp_in (ft (nI (48 * a + L.length)).toNatClampNeg) 48 ∧ gw_K w (ft (nI (48 * a + L.length)).toNatClampNeg).toNatClampNeg = kd ∧
    fs (nI (48 * a + L.length)).toNatClampNeg = nI sg ∧ ft (nI (48 * a + L.length)).toNatClampNeg = nI f.1 ∧ fc (nI (48 * a + L.length)).toNatClampNeg = f.2.2.1 := by
  have h := xo_f B
  have hl := xo_l B
  have ha := B.1
  have hn2 := hw.2.2.1
  have ek : (nI (48 * a + L.length)).toNatClampNeg = 48 * a + L.length := nI_clamp (by omega)
  have e1 : ft (48 * a + L.length) = nI f.1 := h.1
  have e2 : fs (48 * a + L.length) = nI f.2.1 := h.2.1
  have e3 : fc (48 * a + L.length) = f.2.2.1 := h.2.2.1
  rw [ek, e1, e2, e3, nI_clamp (by omega), hk, hs]
  exact ⟨vp_in_nI (by omega) (by decide), vp_in_nI (by omega) (by decide), rfl, rfl, rfl, rfl⟩
theorem xs_c0 {w : gw_T} {t : Nat} : nI t + 1 = nI (gw_c w t 0) := nI_1 t
theorem xs_c1 (hw : gw_S w) (hq : xq_S w q) {t : Nat} (ht : t < gw_n w) (ho : 2 ≤ gw_o w t) : vp_in (nI t + 1) 48 ∧ q.2.2.2.2.2.2.2.1 (nI t + 1).toNatClampNeg = nI (gw_c w t 1) := by
  have h0 := gw_cl hw ht (show 0 < gw_o w t by omega)
  have hn := hw.2.2.1
  have e : gw_c w t 0 = t + 1 := rfl
  rw [nI_1, nI_clamp (by omega), hq (t + 1) (by omega)]
  exact ⟨vp_in_nI (by omega) (by decide), rfl⟩
theorem xs_c2 (hw : gw_S w) (hq : xq_S w q) {t : Nat} (ht : t < gw_n w) (ho : 3 ≤ gw_o w t) : vp_in (nI (gw_c w t 1)) 48 ∧ q.2.2.2.2.2.2.2.1 (nI (gw_c w t 1)).toNatClampNeg = nI (gw_c w t 2) := by
  have h0 := gw_cl hw ht (show 1 < gw_o w t by omega)
  have hn := hw.2.2.1
  rw [nI_clamp (by omega), hq _ h0.2]
  exact ⟨vp_in_nI (by omega) (by decide), rfl⟩
theorem xs_room (hw : gw_S w) (I : gk_I w M S (a :: A') V F G nc sp) (hSa : S a = f :: L) (ho : 0 < gw_o w f.1) : L.length + 2 ≤ 48 := by
  obtain ⟨r, hr, hs⟩ := gk_Is I
  rw [hSa] at hs
  have h1 := gk_PTl hw L f.1 (hs.1 f L rfl)
  have h2 := gw_cl hw (hs.2 f (List.mem_cons_self ..)).1 ho
  have h3 := hw.2.2.1
  have e : gw_c w f.1 0 = f.1 + 1 := rfl
  omega
theorem xs_fo (I : gk_I w M S (a :: A') V F G nc sp) (hSa : S a = f :: L) : gk_FO w V F.2.2 G.2.2.2 (gk_cl G a) f := by
  obtain ⟨r, hr, hs⟩ := gk_Is I
  rw [hSa] at hs
  exact hs.2 f (List.mem_cons_self ..)
end
end
section
section
variable {w : gw_T} {q : xq_T} {M M' : gm_T} {S : Nat → List gf_T} {a : Nat} {A' : List Nat} {V : gv_T} {F : gp_T} {G : gg_T} {N : gn_T} {nc sp : Nat} {u : SX} {f : gf_T} {L : List gf_T} {post : SX → Prop}
variable {e0 s0 k1 k2 : Int32} {n0 k3 : Int64}
theorem xg_p3 (hw : gw_S w) (hq : xq_S w q) (I : gk_I w M S (a :: A') V F G nc sp) (hR : xr_R w q M S (a :: A') V F G N sp u) (hSa : S a = f :: L) (hb : M.1 = false) (hst : f.2.1 = 3) (hp : ∀ u', xr_R w q M (gk_su S a L) (a :: A') V F G N sp u' → post u') : wpX_goOn post u (nI (48 * a + L.length)) := by
  obtain ⟨en, vs, vn, ft, fs, fc, ke, ks, kn, cn, ac, gs, rfl, hP⟩ := hR
  have B := xo_mk hw I hSa hP
  have fo := xs_fo I hSa
  obtain ⟨hen, hv⟩ := hP.1 hb
  have hn := fo.2.2.2.2.2.1 hst
  obtain ⟨i1, i2, eK, eS, eT, eC⟩ := xs_in hw B fo.1 rfl hst
  refine ⟨i1, i2, nm_r eK ⟨i1, nm_r eS (br_f hn.1 (br_f hn.2 (br_c (fun c20 => br_f (by decide) ?_) (fun c20 => ?_))))⟩⟩
  · refine br_t c20 ?_
    exact xs_fas B (fun _ => ⟨hen, hv⟩) hp
  · refine br_f c20 (br_c (fun h0 => br_t (by decide) ?_) (fun h0 => ?_))
    · exact xs_fas B (fun _ => ⟨hen, hv⟩) hp
    · exact xs_fas B (fun _ => ⟨hen, hv⟩) hp
theorem xg_seq (hw : gw_S w) (hq : xq_S w q) (I : gk_I w M S (a :: A') V F G nc sp) (hR : xr_R w q M S (a :: A') V F G N sp u) (hSa : S a = f :: L) (hb : M.1 = false) (hh : M.2.1 = 0) (hst : f.2.1 = 1) (hk : gw_K w f.1 = 15) (hm : M'.1 = true)
    (hp : ∀ u', xr_R w q M' (gk_su S a ((gw_c w f.1 1, 0, f.2.2.1, e0, s0, n0) :: (f.1, 3, f.2.2.1, k1, k2, k3) :: L)) (a :: A') V F G N sp u' → post u') : wpX_goOn post u (nI (48 * a + L.length)) := by
  obtain ⟨en, vs, vn, ft, fs, fc, ke, ks, kn, cn, ac, gs, rfl, hP⟩ := hR
  have B := xo_mk hw I hSa hP
  have fo := xs_fo I hSa
  obtain ⟨hen, hv⟩ := hP.1 hb
  obtain ⟨i1, i2, eK, eS, eT, eC⟩ := xs_in hw B fo.1 hk hst
  have ho : gw_o w f.1 = 2 := by rw [hw.2.2.2.1 _ fo.1, hk]; decide
  have hc1 := xs_c1 hw hq fo.1 (by omega)
  refine ⟨i1, i2, nm_r eK ⟨i1, nm_r eS (br_f (by decide) (br_f (by decide) (br_f (by decide) (br_f (by decide) (br_t (hen.trans hh) (br_f (by decide) (br_t (by decide) ?_)))))))⟩⟩
  refine ⟨i1, nm_r eT ⟨i1, nm_r eC ?_⟩⟩
  repeat (refine br_f (by decide) ?_)
  refine br_t (by decide) ⟨hc1.1, ?_⟩
  exact xs_wop B (xs_room hw I hSa (by omega)) gk_32 hm rfl hc1.2 hp
theorem xg_ret (hw : gw_S w) (hq : xq_S w q) (I : gk_I w M S (a :: A') V F G nc sp) (hR : xr_R w q M S (a :: A') V F G N sp u) (hSa : S a = f :: L) (hb : M.1 = false) (hh : M.2.1 = 0) (hst : f.2.1 = 1) (hk : gw_K w f.1 = 18)
    (hp : ∀ u', xr_R w q (false, 4, M.2.2) (gk_su S a L) (a :: A') V F G N sp u' → post u') : wpX_goOn post u (nI (48 * a + L.length)) := by
  obtain ⟨en, vs, vn, ft, fs, fc, ke, ks, kn, cn, ac, gs, rfl, hP⟩ := hR
  have B := xo_mk hw I hSa hP
  have fo := xs_fo I hSa
  obtain ⟨hen, hv⟩ := hP.1 hb
  obtain ⟨i1, i2, eK, eS, eT, eC⟩ := xs_in hw B fo.1 hk hst
  refine ⟨i1, i2, nm_r eK ⟨i1, nm_r eS (br_f (by decide) (br_f (by decide) (br_f (by decide) (br_f (by decide) (br_t (hen.trans hh) (br_f (by decide) (br_t (by decide) ?_)))))))⟩⟩
  refine ⟨i1, nm_r eT ⟨i1, nm_r eC ?_⟩⟩
  repeat (refine br_f (by decide) ?_)
  refine br_t (by decide) ?_
  exact xs_fas (M' := (false, 4, M.2.2)) B (fun _ => ⟨rfl, fun _ => hv (Or.inl hh)⟩) hp
theorem xg_thr (hw : gw_S w) (hq : xq_S w q) (I : gk_I w M S (a :: A') V F G nc sp) (hR : xr_R w q M S (a :: A') V F G N sp u) (hSa : S a = f :: L) (hb : M.1 = false) (hh : M.2.1 = 0) (hst : f.2.1 = 1) (hk : gw_K w f.1 = 19)
    (hp : ∀ u', xr_R w q (false, 1, M.2.2) (gk_su S a L) (a :: A') V F G N sp u' → post u') : wpX_goOn post u (nI (48 * a + L.length)) := by
  obtain ⟨en, vs, vn, ft, fs, fc, ke, ks, kn, cn, ac, gs, rfl, hP⟩ := hR
  have B := xo_mk hw I hSa hP
  have fo := xs_fo I hSa
  obtain ⟨hen, hv⟩ := hP.1 hb
  obtain ⟨i1, i2, eK, eS, eT, eC⟩ := xs_in hw B fo.1 hk hst
  refine ⟨i1, i2, nm_r eK ⟨i1, nm_r eS (br_f (by decide) (br_f (by decide) (br_f (by decide) (br_f (by decide) (br_t (hen.trans hh) (br_f (by decide) (br_t (by decide) ?_)))))))⟩⟩
  refine ⟨i1, nm_r eT ⟨i1, nm_r eC ?_⟩⟩
  repeat (refine br_f (by decide) ?_)
  refine br_t (by decide) ?_
  exact xs_fas (M' := (false, 1, M.2.2)) B (fun _ => ⟨rfl, fun _ => hv (Or.inl hh)⟩) hp
theorem xg_pw1 (hw : gw_S w) (hq : xq_S w q) (I : gk_I w M S (a :: A') V F G nc sp) (hR : xr_R w q M S (a :: A') V F G N sp u) (hSa : S a = f :: L) (hb : M.1 = false) (hh : M.2.1 ≠ 0) (hst : f.2.1 = 1) (hk : gw_K w f.1 = 14)
    (hp : ∀ u', xr_R w q M (gk_su S a L) (a :: A') V F G N sp u' → post u') : wpX_goOn post u (nI (48 * a + L.length)) := by
  obtain ⟨en, vs, vn, ft, fs, fc, ke, ks, kn, cn, ac, gs, rfl, hP⟩ := hR
  have B := xo_mk hw I hSa hP
  have fo := xs_fo I hSa
  obtain ⟨hen, hv⟩ := hP.1 hb
  obtain ⟨i1, i2, eK, eS, eT, eC⟩ := xs_in hw B fo.1 hk hst
  refine ⟨i1, i2, nm_r eK ⟨i1, nm_r eS (br_t (by decide) ?_)⟩⟩
  refine ⟨i1, nm_r eT ⟨i1, nm_r eC (br_t (by decide) (br_f (by rw [hen]; exact hh) (br_f (by decide) (br_f (by decide) ?_))))⟩⟩
  exact xs_fas B (fun _ => ⟨hen, hv⟩) hp
theorem xg_pw2 (hw : gw_S w) (hq : xq_S w q) (I : gk_I w M S (a :: A') V F G nc sp) (hR : xr_R w q M S (a :: A') V F G N sp u) (hSa : S a = f :: L) (hb : M.1 = false) (h0 : M.2.1 ≠ 0) (h3 : M.2.1 ≠ 3) (h2 : M.2.1 ≠ 2) (hst : f.2.1 = 2) (hk : gw_K w f.1 = 14)
    (hp : ∀ u', xr_R w q M (gk_su S a L) (a :: A') V F G N sp u' → post u') : wpX_goOn post u (nI (48 * a + L.length)) := by
  obtain ⟨en, vs, vn, ft, fs, fc, ke, ks, kn, cn, ac, gs, rfl, hP⟩ := hR
  have B := xo_mk hw I hSa hP
  have fo := xs_fo I hSa
  obtain ⟨hen, hv⟩ := hP.1 hb
  obtain ⟨i1, i2, eK, eS, eT, eC⟩ := xs_in hw B fo.1 hk hst
  refine ⟨i1, i2, nm_r eK ⟨i1, nm_r eS (br_t (by decide) ?_)⟩⟩
  refine ⟨i1, nm_r eT ⟨i1, nm_r eC (br_f (by decide) (br_t (by decide) (br_f (by rw [hen]; exact h0) (br_f (by rw [hen]; exact h3) (br_t (by decide) (br_f (by rw [hen]; exact h2) ?_))))))⟩⟩
  exact xs_fas B (fun _ => ⟨hen, hv⟩) hp
theorem xg_w1t (hw : gw_S w) (hq : xq_S w q) (I : gk_I w M S (a :: A') V F G nc sp) (hR : xr_R w q M S (a :: A') V F G N sp u) (hSa : S a = f :: L) (hb : M.1 = false) (hh : M.2.1 = 0) (hst : f.2.1 = 1) (hk : gw_K w f.1 = 14) (ht : gk_tr M.2.2.1 M.2.2.2 = true) (hm : M'.1 = true)
    (hp : ∀ u', xr_R w q M' (gk_su S a ((gw_c w f.1 1, 0, f.2.2.1, e0, s0, n0) :: (f.1, 2, f.2.2.1, k1, k2, k3) :: L)) (a :: A') V F G N sp u' → post u') : wpX_goOn post u (nI (48 * a + L.length)) := by
  obtain ⟨en, vs, vn, ft, fs, fc, ke, ks, kn, cn, ac, gs, rfl, hP⟩ := hR
  have B := xo_mk hw I hSa hP
  have fo := xs_fo I hSa
  obtain ⟨hen, hv⟩ := hP.1 hb
  obtain ⟨i1, i2, eK, eS, eT, eC⟩ := xs_in hw B fo.1 hk hst
  have ho : gw_o w f.1 = 2 := by rw [hw.2.2.2.1 _ fo.1, hk]; decide
  have hc1 := xs_c1 hw hq fo.1 (by omega)
  have hvv := hv (Or.inl hh)
  refine ⟨i1, i2, nm_r eK ⟨i1, nm_r eS (br_t (by decide) ?_)⟩⟩
  refine ⟨i1, nm_r eT ⟨i1, nm_r eC (br_t (by decide) (br_t (hen.trans hh) ?_))⟩⟩
  refine xm_true hvv.1 hvv.2 ?_
  rw [if_pos ht]
  refine br_f (by decide) ⟨hc1.1, ?_⟩
  exact xs_wop B (xs_room hw I hSa (by omega)) (fun _ z => absurd hk z) hm rfl hc1.2 hp
theorem xg_w1f (hw : gw_S w) (hq : xq_S w q) (I : gk_I w M S (a :: A') V F G nc sp) (hR : xr_R w q M S (a :: A') V F G N sp u) (hSa : S a = f :: L) (hb : M.1 = false) (hh : M.2.1 = 0) (hst : f.2.1 = 1) (hk : gw_K w f.1 = 14) (ht : ¬ gk_tr M.2.2.1 M.2.2.2 = true)
    (hp : ∀ u', xr_R w q (false, 0, 0, 0) (gk_su S a L) (a :: A') V F G N sp u' → post u') : wpX_goOn post u (nI (48 * a + L.length)) := by
  obtain ⟨en, vs, vn, ft, fs, fc, ke, ks, kn, cn, ac, gs, rfl, hP⟩ := hR
  have B := xo_mk hw I hSa hP
  have fo := xs_fo I hSa
  obtain ⟨hen, hv⟩ := hP.1 hb
  obtain ⟨i1, i2, eK, eS, eT, eC⟩ := xs_in hw B fo.1 hk hst
  have hvv := hv (Or.inl hh)
  refine ⟨i1, i2, nm_r eK ⟨i1, nm_r eS (br_t (by decide) ?_)⟩⟩
  refine ⟨i1, nm_r eT ⟨i1, nm_r eC (br_t (by decide) (br_t (hen.trans hh) ?_))⟩⟩
  refine xm_true hvv.1 hvv.2 ?_
  rw [if_neg ht]
  refine br_t (by decide) ?_
  exact xs_fin B hp
theorem xg_w2 (hw : gw_S w) (hq : xq_S w q) (I : gk_I w M S (a :: A') V F G nc sp) (hR : xr_R w q M S (a :: A') V F G N sp u) (hSa : S a = f :: L) (hb : M.1 = false) (hh : M.2.1 = 0 ∨ M.2.1 = 3) (hst : f.2.1 = 2) (hk : gw_K w f.1 = 14) (hm : M'.1 = true)
    (hp : ∀ u', xr_R w q M' (gk_su S a ((gw_c w f.1 0, 0, f.2.2.1, e0, s0, n0) :: (f.1, 1, f.2.2.1, k1, k2, k3) :: L)) (a :: A') V F G N sp u' → post u') : wpX_goOn post u (nI (48 * a + L.length)) := by
  obtain ⟨en, vs, vn, ft, fs, fc, ke, ks, kn, cn, ac, gs, rfl, hP⟩ := hR
  have B := xo_mk hw I hSa hP
  have fo := xs_fo I hSa
  obtain ⟨hen, hv⟩ := hP.1 hb
  obtain ⟨i1, i2, eK, eS, eT, eC⟩ := xs_in hw B fo.1 hk hst
  have ho : gw_o w f.1 = 2 := by rw [hw.2.2.2.1 _ fo.1, hk]; decide
  have hc1 := xs_c1 hw hq fo.1 (by omega)
  refine ⟨i1, i2, nm_r eK ⟨i1, nm_r eS (br_t (by decide) ?_)⟩⟩
  refine ⟨i1, nm_r eT ⟨i1, nm_r eC (br_f (by decide) (br_t (by decide) ?_))⟩⟩
  rcases hh with hh | hh
  · refine br_t (hen.trans hh) ?_
    exact xs_wop B (xs_room hw I hSa (by omega)) (fun _ z => absurd hk z) hm rfl xs_c0 hp
  · refine br_f (by rw [hen, hh]; decide) (br_t (hen.trans hh) ?_)
    exact xs_wop B (xs_room hw I hSa (by omega)) (fun _ z => absurd hk z) hm rfl xs_c0 hp
theorem xg_w2b (hw : gw_S w) (hq : xq_S w q) (I : gk_I w M S (a :: A') V F G nc sp) (hR : xr_R w q M S (a :: A') V F G N sp u) (hSa : S a = f :: L) (hb : M.1 = false) (hh : M.2.1 = 2) (hst : f.2.1 = 2) (hk : gw_K w f.1 = 14)
    (hp : ∀ u', xr_R w q (false, 0, 0, 0) (gk_su S a L) (a :: A') V F G N sp u' → post u') : wpX_goOn post u (nI (48 * a + L.length)) := by
  obtain ⟨en, vs, vn, ft, fs, fc, ke, ks, kn, cn, ac, gs, rfl, hP⟩ := hR
  have B := xo_mk hw I hSa hP
  have fo := xs_fo I hSa
  obtain ⟨hen, hv⟩ := hP.1 hb
  obtain ⟨i1, i2, eK, eS, eT, eC⟩ := xs_in hw B fo.1 hk hst
  refine ⟨i1, i2, nm_r eK ⟨i1, nm_r eS (br_t (by decide) ?_)⟩⟩
  refine ⟨i1, nm_r eT ⟨i1, nm_r eC (br_f (by decide) (br_t (by decide) (br_f (by rw [hen, hh]; decide) (br_f (by rw [hen, hh]; decide) (br_t (by decide) (br_t (hen.trans hh) ?_))))))⟩⟩
  exact xs_fin B hp
theorem xg_f1 (hw : gw_S w) (hq : xq_S w q) (I : gk_I w M S (a :: A') V F G nc sp) (hR : xr_R w q M S (a :: A') V F G N sp u) (hSa : S a = f :: L) (hb : M.1 = false) (hst : f.2.1 = 1) (hk : gw_K w f.1 = 21) (hm : M'.1 = true)
    (hp : ∀ u', xr_R w q M' (gk_su S a ((gw_c w f.1 1, 0, f.2.2.1, e0, s0, n0) :: (f.1, 2, f.2.2.1, M.2) :: L)) (a :: A') V F G N sp u' → post u') : wpX_goOn post u (nI (48 * a + L.length)) := by
  obtain ⟨en, vs, vn, ft, fs, fc, ke, ks, kn, cn, ac, gs, rfl, hP⟩ := hR
  have B := xo_mk hw I hSa hP
  have fo := xs_fo I hSa
  obtain ⟨hen, hv⟩ := hP.1 hb
  obtain ⟨i1, i2, eK, eS, eT, eC⟩ := xs_in hw B fo.1 hk hst
  have ho : gw_o w f.1 = 2 := by rw [hw.2.2.2.1 _ fo.1, hk]; decide
  have hc1 := xs_c1 hw hq fo.1 (by omega)
  have hl := xo_l B
  have ha := B.1
  have ek : (nI (48 * a + L.length)).toNatClampNeg = 48 * a + L.length := nI_clamp (by omega)
  refine ⟨i1, i2, nm_r eK ⟨i1, nm_r eS (br_f (by decide) (br_t (by decide) (br_t (by decide) ⟨i1, nm_r (e' := upd ke (48 * a + L.length) en) (by rw [ek]) ?_⟩)))⟩⟩
  refine xm_keep (by omega) ⟨i1, ?_⟩
  have hc2 := hc1
  rw [← eT] at hc2
  refine ⟨hc2.1, i1, ?_⟩
  have B2 : xo_B w S A' a f L G ft fs fc (upd ke (48 * a + L.length) en) (upd ks (48 * a + L.length) vs) (vp_updL kn (48 * a + L.length) vn) cn ac gs :=
    ⟨B.1, B.2.1, B.2.2.1, B.2.2.2.1, B.2.2.2.2.1, xr_keep B.2.2.2.2.2.1 B.1 xo_lv B.2.2.1 B.2.2.2.1 hst _ (fun i hi => pk_un hi) hl, B.2.2.2.2.2.2⟩
  rw [eC]
  refine xs_wop B2 (xs_room hw I hSa (by omega)) (fun _ _ => ⟨fun _ => ?_, fun z => ⟨?_, ?_⟩⟩) hm rfl hc2.2 hp
  · rw [pk_us]; exact hen
  · rw [pk_us]; exact (hv z).1
  · rw [pk_uLs]; exact (hv z).2
theorem xg_f2 (hw : gw_S w) (hq : xq_S w q) (I : gk_I w M S (a :: A') V F G nc sp) (hR : xr_R w q M S (a :: A') V F G N sp u) (hSa : S a = f :: L) (hb : M.1 = false) (hh : M.2.1 = 0) (hst : f.2.1 = 2) (hk : gw_K w f.1 = 21)
    (hp : ∀ u', xr_R w q (false, f.2.2.2) (gk_su S a L) (a :: A') V F G N sp u' → post u') : wpX_goOn post u (nI (48 * a + L.length)) := by
  obtain ⟨en, vs, vn, ft, fs, fc, ke, ks, kn, cn, ac, gs, rfl, hP⟩ := hR
  have B := xo_mk hw I hSa hP
  have fo := xs_fo I hSa
  obtain ⟨hen, hv⟩ := hP.1 hb
  obtain ⟨i1, i2, eK, eS, eT, eC⟩ := xs_in hw B fo.1 hk hst
  have hl := xo_l B
  have ha := B.1
  have ek : (nI (48 * a + L.length)).toNatClampNeg = 48 * a + L.length := nI_clamp (by omega)
  have hx := (xo_f B).2.2.2 hst (by rw [hk]; decide)
  refine ⟨i1, i2, nm_r eK ⟨i1, nm_r eS (br_f (by decide) (br_t (by decide) (br_f (by decide) (br_t (hen.trans hh) ?_))))⟩⟩
  refine ⟨i1, nm_r (e' := ks (48 * a + L.length)) (by rw [ek]) ⟨i1, nm_r (e' := kn (48 * a + L.length)) (by rw [ek]) ⟨i1, ?_⟩⟩⟩
  rw [ek]
  exact xs_fas (M' := (false, f.2.2.2)) B (fun _ => ⟨hx.1 hk, fun z => hx.2 z⟩) hp
theorem xg_f2p (hw : gw_S w) (hq : xq_S w q) (I : gk_I w M S (a :: A') V F G nc sp) (hR : xr_R w q M S (a :: A') V F G N sp u) (hSa : S a = f :: L) (hb : M.1 = false) (hh : M.2.1 ≠ 0) (hst : f.2.1 = 2) (hk : gw_K w f.1 = 21)
    (hp : ∀ u', xr_R w q M (gk_su S a L) (a :: A') V F G N sp u' → post u') : wpX_goOn post u (nI (48 * a + L.length)) := by
  obtain ⟨en, vs, vn, ft, fs, fc, ke, ks, kn, cn, ac, gs, rfl, hP⟩ := hR
  have B := xo_mk hw I hSa hP
  have fo := xs_fo I hSa
  obtain ⟨hen, hv⟩ := hP.1 hb
  obtain ⟨i1, i2, eK, eS, eT, eC⟩ := xs_in hw B fo.1 hk hst
  refine ⟨i1, i2, nm_r eK ⟨i1, nm_r eS (br_f (by decide) (br_t (by decide) (br_f (by decide) (br_f (by rw [hen]; exact hh) ?_))))⟩⟩
  exact xs_fas B (fun _ => ⟨hen, hv⟩) hp
theorem xg_pt (hw : gw_S w) (hq : xq_S w q) (I : gk_I w M S (a :: A') V F G nc sp) (hR : xr_R w q M S (a :: A') V F G N sp u) (hSa : S a = f :: L) (hb : M.1 = false) (hh : M.2.1 ≠ 1) (hst : f.2.1 = 1) (hk : gw_K w f.1 = 20)
    (hp : ∀ u', xr_R w q M (gk_su S a L) (a :: A') V F G N sp u' → post u') : wpX_goOn post u (nI (48 * a + L.length)) := by
  obtain ⟨en, vs, vn, ft, fs, fc, ke, ks, kn, cn, ac, gs, rfl, hP⟩ := hR
  have B := xo_mk hw I hSa hP
  have fo := xs_fo I hSa
  obtain ⟨hen, hv⟩ := hP.1 hb
  obtain ⟨i1, i2, eK, eS, eT, eC⟩ := xs_in hw B fo.1 hk hst
  refine ⟨i1, i2, nm_r eK ⟨i1, nm_r eS (br_f (by decide) (br_f (by decide) (br_t (by decide) (br_t (by decide) (br_f (by rw [hen]; exact hh) (br_t (by decide) ?_))))))⟩⟩
  exact xs_fas B (fun _ => ⟨hen, hv⟩) hp
theorem xg_pn (hw : gw_S w) (hq : xq_S w q) (I : gk_I w M S (a :: A') V F G nc sp) (hR : xr_R w q M S (a :: A') V F G N sp u) (hSa : S a = f :: L) (hb : M.1 = false) (hh : M.2.1 ≠ 0) (h14 : gw_K w f.1 ≠ 14) (h21 : gw_K w f.1 ≠ 21) (h20 : gw_K w f.1 ≠ 20)
    (hp : ∀ u', xr_R w q M (gk_su S a L) (a :: A') V F G N sp u' → post u') : wpX_goOn post u (nI (48 * a + L.length)) := by
  obtain ⟨en, vs, vn, ft, fs, fc, ke, ks, kn, cn, ac, gs, rfl, hP⟩ := hR
  have B := xo_mk hw I hSa hP
  have fo := xs_fo I hSa
  obtain ⟨hen, hv⟩ := hP.1 hb
  obtain ⟨i1, i2, eK, eS, eT, eC⟩ := xs_in hw B fo.1 rfl rfl
  refine ⟨i1, i2, nm_r eK ⟨i1, nm_r eS (br_f h14 (br_f h21 (br_f h20 (br_f h20 (br_f (by rw [hen]; exact hh) ?_)))))⟩⟩
  exact xs_fas B (fun _ => ⟨hen, hv⟩) hp
theorem xg_bag (hw : gw_S w) (hq : xq_S w q) (I : gk_I w M S (a :: A') V F G nc sp) (hSa : S a = f :: L) {en vs : Int32} {vn : Int64} {ft fs fc ke ks : Nat → Int32} {kn : Nat → Int64} {cn ac gs : Nat → Int32}
    (B : xo_B w S A' a f L G ft fs fc ke ks kn cn ac gs) (ho : gw_o w f.1 = 2) (hst : f.2.1 = 1) (hm : M'.1 = true)
    (hp : ∀ u', xr_R w q M' (gk_su S a ((gw_c w f.1 1, 0, nI V.2.2.2.2, e0, s0, n0) :: (f.1, 3, f.2.2.1, k1, k2, k3) :: L)) (a :: A') (gk_bd V (nI f.1) f.2.2.1 vs vn) F G N sp u' → post u') :
    wpX_bindAndGoOn post (xr_t w q (a :: A') V F G.2.2.2 N sp en vs vn ft fs fc ke ks kn cn ac gs) (nI (48 * a + L.length)) := by
  have fo := xs_fo I hSa
  obtain ⟨i1, i2, eK, eS, eT, eC⟩ := xs_in hw B fo.1 rfl hst
  have hc1 := xs_c1 hw hq fo.1 (by omega)
  have h5 := I.2.2.2.2.1
  have hy : 0 < gk_sm gk_yl S 16 := by
    have h := gk_sms gk_yl S a [] 16 B.1
    have h2 : gk_yl (S a) = gk_yl L + 1 := by rw [hSa]; exact if_pos (Or.inl hst)
    have h3 : gk_yl [] = 0 := rfl
    omega
  refine ⟨i1, nm_r eT ⟨i1, ?_⟩⟩
  rw [eC]
  refine xm_newVar (v := V.2.2.2.2) rfl (by omega) ⟨hc1.1, ?_⟩
  exact xs_wop (V := gk_bd V (nI f.1) f.2.2.1 vs vn) B (xs_room hw I hSa (by omega)) gk_32 hm rfl hc1.2 hp
theorem xg_try (hw : gw_S w) (hq : xq_S w q) (I : gk_I w M S (a :: A') V F G nc sp) (hR : xr_R w q M S (a :: A') V F G N sp u) (hSa : S a = f :: L) (hb : M.1 = false) (hh : M.2.1 = 1) (hst : f.2.1 = 1) (hk : gw_K w f.1 = 20) (hm : M'.1 = true)
    (hp : ∀ u', xr_R w q M' (gk_su S a ((gw_c w f.1 1, 0, nI V.2.2.2.2, e0, s0, n0) :: (f.1, 3, f.2.2.1, k1, k2, k3) :: L)) (a :: A') (gk_bd V (nI f.1) f.2.2.1 M.2.2.1 M.2.2.2) F G N sp u' → post u') : wpX_goOn post u (nI (48 * a + L.length)) := by
  obtain ⟨en, vs, vn, ft, fs, fc, ke, ks, kn, cn, ac, gs, rfl, hP⟩ := hR
  have B := xo_mk hw I hSa hP
  have fo := xs_fo I hSa
  obtain ⟨hen, hv⟩ := hP.1 hb
  obtain ⟨i1, i2, eK, eS, eT, eC⟩ := xs_in hw B fo.1 hk hst
  have ho : gw_o w f.1 = 2 := by rw [hw.2.2.2.1 _ fo.1, hk]; decide
  obtain ⟨rfl, rfl⟩ := hv (Or.inr (Or.inl hh))
  refine ⟨i1, i2, nm_r eK ⟨i1, nm_r eS (br_f (by decide) (br_f (by decide) (br_t (by decide) (br_t (by decide) (br_t (hen.trans hh) ?_)))))⟩⟩
  exact xg_bag hw hq I hSa B ho hst hm hp
theorem xg_let (hw : gw_S w) (hq : xq_S w q) (I : gk_I w M S (a :: A') V F G nc sp) (hR : xr_R w q M S (a :: A') V F G N sp u) (hSa : S a = f :: L) (hb : M.1 = false) (hh : M.2.1 = 0) (hst : f.2.1 = 1) (hk : gw_K w f.1 = 4) (hm : M'.1 = true)
    (hp : ∀ u', xr_R w q M' (gk_su S a ((gw_c w f.1 1, 0, nI V.2.2.2.2, e0, s0, n0) :: (f.1, 3, f.2.2.1, k1, k2, k3) :: L)) (a :: A') (gk_bd V (nI f.1) f.2.2.1 M.2.2.1 M.2.2.2) F G N sp u' → post u') : wpX_goOn post u (nI (48 * a + L.length)) := by
  obtain ⟨en, vs, vn, ft, fs, fc, ke, ks, kn, cn, ac, gs, rfl, hP⟩ := hR
  have B := xo_mk hw I hSa hP
  have fo := xs_fo I hSa
  obtain ⟨hen, hv⟩ := hP.1 hb
  obtain ⟨i1, i2, eK, eS, eT, eC⟩ := xs_in hw B fo.1 hk hst
  have ho : gw_o w f.1 = 2 := by rw [hw.2.2.2.1 _ fo.1, hk]; decide
  obtain ⟨rfl, rfl⟩ := hv (Or.inl hh)
  refine ⟨i1, i2, nm_r eK ⟨i1, nm_r eS (br_f (by decide) (br_f (by decide) (br_f (by decide) (br_f (by decide) (br_t (hen.trans hh) (br_f (by decide) (br_t (by decide) ?_)))))))⟩⟩
  refine ⟨i1, nm_r eT ⟨i1, nm_r eC ?_⟩⟩
  repeat (refine br_f (by decide) ?_)
  refine br_t (by decide) ?_
  exact xg_bag hw hq I hSa B ho hst hm hp
theorem xg_if (hw : gw_S w) (hq : xq_S w q) (I : gk_I w M S (a :: A') V F G nc sp) (hR : xr_R w q M S (a :: A') V F G N sp u) (hSa : S a = f :: L) (hb : M.1 = false) (hh : M.2.1 = 0) (hst : f.2.1 = 1) (hk : gw_K w f.1 = 13) (hm : M'.1 = true)
    (hp : ∀ u', xr_R w q M' (gk_su S a ((gw_c w f.1 (if gk_tr M.2.2.1 M.2.2.2 = true then 1 else 2), 0, f.2.2.1, e0, s0, n0) :: (f.1, 3, f.2.2.1, k1, k2, k3) :: L)) (a :: A') V F G N sp u' → post u') : wpX_goOn post u (nI (48 * a + L.length)) := by
  obtain ⟨en, vs, vn, ft, fs, fc, ke, ks, kn, cn, ac, gs, rfl, hP⟩ := hR
  have B := xo_mk hw I hSa hP
  have fo := xs_fo I hSa
  obtain ⟨hen, hv⟩ := hP.1 hb
  obtain ⟨i1, i2, eK, eS, eT, eC⟩ := xs_in hw B fo.1 hk hst
  have ho : gw_o w f.1 = 3 := by rw [hw.2.2.2.1 _ fo.1, hk]; decide
  have hc1 := xs_c1 hw hq fo.1 (by omega)
  have hc2 := xs_c2 hw hq fo.1 (by omega)
  have hvv := hv (Or.inl hh)
  refine ⟨i1, i2, nm_r eK ⟨i1, nm_r eS (br_f (by decide) (br_f (by decide) (br_f (by decide) (br_f (by decide) (br_t (hen.trans hh) (br_f (by decide) (br_t (by decide) ?_)))))))⟩⟩
  refine ⟨i1, nm_r eT ⟨i1, nm_r eC ?_⟩⟩
  repeat (refine br_f (by decide) ?_)
  refine br_t (by decide) ⟨hc1.1, nm_r hc1.2 ?_⟩
  refine xm_true hvv.1 hvv.2 ?_
  by_cases ht : gk_tr M.2.2.1 M.2.2.2 = true
  · rw [if_pos ht] at hp ⊢
    refine br_f (by decide) ?_
    exact xs_wop B (xs_room hw I hSa (by omega)) gk_32 hm rfl rfl hp
  · rw [if_neg ht] at hp ⊢
    refine br_t (by decide) ⟨hc2.1, ?_⟩
    exact xs_wop B (xs_room hw I hSa (by omega)) gk_32 hm rfl hc2.2 hp
theorem xg_eag (hw : gw_S w) (hq : xq_S w q) (I : gk_I w M S (a :: A') V F G nc sp) (hR : xr_R w q M S (a :: A') V F G N sp u) (hSa : S a = f :: L) (hb : M.1 = false) (hh : M.2.1 = 0) (hst : f.2.1 = 1) (hk : gk_eag (gw_K w f.1)) (hm : M'.1 = true)
    (hp : ∀ u', xr_R w q M' (gk_su S a ((gw_c w f.1 1, 0, f.2.2.1, e0, s0, n0) :: (f.1, 2, f.2.2.1, M.2) :: L)) (a :: A') V F G N sp u' → post u') : wpX_goOn post u (nI (48 * a + L.length)) := by
  obtain ⟨en, vs, vn, ft, fs, fc, ke, ks, kn, cn, ac, gs, rfl, hP⟩ := hR
  have B := xo_mk hw I hSa hP
  have fo := xs_fo I hSa
  obtain ⟨hen, hv⟩ := hP.1 hb
  have hl := xo_l B
  have ha := B.1
  have hvv := hv (Or.inl hh)
  have B2 : xo_B w S A' a f L G ft fs fc ke (upd ks (48 * a + L.length) vs) (vp_updL kn (48 * a + L.length) vn) cn ac gs :=
    ⟨B.1, B.2.1, B.2.2.1, B.2.2.2.1, B.2.2.2.2.1, xr_keep B.2.2.2.2.2.1 B.1 xo_lv B.2.2.1 B.2.2.2.1 hst _ (fun i hi => rfl) hl, B.2.2.2.2.2.2⟩
  have n21 : gw_K w f.1 ≠ 21 := by
    intro z
    rw [z] at hk
    exact absurd hk (by unfold gk_eag; decide)
  have key : ∀ kd : Int32, gw_K w f.1 = kd → (kd = 6 ∨ kd = 7 ∨ kd = 8 ∨ kd = 9 ∨ kd = 10 ∨ kd = 11 ∨ kd = 12 ∨ kd = 23) → wpX_goOn post (xr_t w q (a :: A') V F G.2.2.2 N sp en vs vn ft fs fc ke ks kn cn ac gs) (nI (48 * a + L.length)) := by
    intro kd hk hd
    obtain ⟨i1, i2, eK, eS, eT, eC⟩ := xs_in hw B fo.1 hk hst
    have ho : gw_o w f.1 = 2 := by
      rw [hw.2.2.2.1 _ fo.1, hk]
      rcases hd with rfl | rfl | rfl | rfl | rfl | rfl | rfl | rfl <;> decide
    have hc1 := xs_c1 hw hq fo.1 (by omega)
    have fin : wX_goOnBehindFirst_255 post (nI (48 * a + L.length)) (nI f.1) f.2.2.1 q.1 q.2.1 q.2.2.1 (nI (a :: A').length) (nI V.2.2.2.2) (nI F.2.2) (nI G.2.2.2) en vs vn (nI N.2.2) (nI sp) q.2.2.2.1 q.2.2.2.2.1 q.2.2.2.2.2.1 (gw_K w) (gw_v w) q.2.2.2.2.2.2.1 q.2.2.2.2.2.2.2.1 q.2.2.2.2.2.2.2.2 (gw_mn w) (gw_gn w) ft fs fc ke ks kn cn ac V.1 V.2.1 V.2.2.1 V.2.2.2.1 F.1 F.2.1 gs N.1 N.2.1 := by
      refine xm_keep (by omega) ⟨hc1.1, ?_⟩
      refine xs_wop B2 (xs_room hw I hSa (by omega)) (fun _ _ => ⟨fun z => absurd z n21, fun _ => ⟨?_, ?_⟩⟩) hm rfl hc1.2 hp
      · rw [pk_us]; exact hvv.1
      · rw [pk_uLs]; exact hvv.2
    rcases hd with rfl | rfl | rfl | rfl | rfl | rfl | rfl | rfl
    all_goals
      refine ⟨i1, i2, nm_r eK ⟨i1, nm_r eS (br_f (by decide) (br_f (by decide) (br_f (by decide) (br_f (by decide) (br_t (hen.trans hh) (br_f (by decide) (br_t (by decide) ?_)))))))⟩⟩
      refine ⟨i1, nm_r eT ⟨i1, nm_r eC ?_⟩⟩
      repeat (refine br_f (by decide) ?_)
      exact br_t (by decide) fin
  exact key _ rfl hk
end
end
section
def gk_st (V : gv_T) (i : Nat) (s : Int32) (x : Int64) : gv_T := (V.1, V.2.1, upd V.2.2.1 i s, vp_updL V.2.2.2.1 i x, V.2.2.2.2)
def gk_sh (F : gp_T) (s : Int32) (x : Int64) : Int64 := if s = 3 then (F.1 x.toInt32.toNatClampNeg).toInt64 else x
def gk_nt (F : gp_T) (N : gn_T) (s : Int32) (x : Int64) : gn_T :=
  if N.2.2 < 40 then (upd N.1 N.2.2 s, vp_updL N.2.1 N.2.2 (gk_sh F s x), N.2.2 + 1) else (N.1, N.2.1, N.2.2 + 1)
theorem gk_g8 {g : Nat} : nI (8 + g) - 8 = nI g := by
  have h : nI (8 + g) - nI 8 = nI (8 + g - 8) := pk_sub (by omega)
  rw [Nat.add_sub_cancel_left] at h
  exact h
section
variable {w : gw_T} {q : xq_T} {M M' : gm_T} {S : Nat → List gf_T} {a : Nat} {A' : List Nat} {V : gv_T} {F : gp_T} {G : gg_T} {N : gn_T} {nc sp : Nat} {u : SX} {f : gf_T} {L : List gf_T} {post : SX → Prop}
variable {e0 s0 k1 k2 : Int32} {n0 k3 : Int64}
theorem xg_vc (I : gk_I w M S (a :: A') V F G nc sp) : V.2.2.2.2 ≤ 600 ∧ F.2.2 ≤ 600 ∧ G.2.2.2 ≤ 8 := by
  have h := I.2.2.2.2.1
  exact ⟨by omega, by omega, h.2.2⟩
theorem xg_set (hw : gw_S w) (hq : xq_S w q) (I : gk_I w M S (a :: A') V F G nc sp) (hR : xr_R w q M S (a :: A') V F G N sp u) (hSa : S a = f :: L) (hb : M.1 = false) (hh : M.2.1 = 0) (hst : f.2.1 = 1) (hk : gw_K w f.1 = 3) {b : Nat} (hbs : b ∈ gw_sc w f.1) (hmn : gw_mn w f.1 = nI b)
    (hp : ∀ u', xr_R w q (false, 0, M.2.2) (gk_su S a L) (a :: A') (gk_st V (gk_fi V b (gw_sc w f.1) f.2.2.1) M.2.2.1 M.2.2.2) F G N sp u' → post u') : wpX_goOn post u (nI (48 * a + L.length)) := by
  obtain ⟨en, vs, vn, ft, fs, fc, ke, ks, kn, cn, ac, gs, rfl, hP⟩ := hR
  have B := xo_mk hw I hSa hP
  have fo := xs_fo I hSa
  obtain ⟨hen, hv⟩ := hP.1 hb
  obtain ⟨i1, i2, eK, eS, eT, eC⟩ := xs_in hw B fo.1 hk hst
  have hn := hw.2.2.1
  have hvc := xg_vc I
  have hsc := hw.2.2.2.2.2.2.2.2.2.2.2 f.1 fo.1
  have hb48 : b < 48 := by have := hsc.2 b hbs; have := fo.1; omega
  have hfi := gk_fil (b := b) (by omega) _ _ fo.2.1 hbs
  obtain ⟨rfl, rfl⟩ := hv (Or.inl hh)
  refine ⟨i1, i2, nm_r eK ⟨i1, nm_r eS (br_f (by decide) (br_f (by decide) (br_f (by decide) (br_f (by decide) (br_t (hen.trans hh) (br_f (by decide) (br_t (by decide) ?_)))))))⟩⟩
  refine ⟨i1, nm_r eT ⟨i1, nm_r eC ?_⟩⟩
  repeat (refine br_f (by decide) ?_)
  refine br_t (by decide) ⟨vp_in_nI (by have := fo.1; omega) (by decide), ?_⟩
  rw [nI_clamp (by have := fo.1; omega), hmn]
  refine xm_find hvc.1 hb48 rfl rfl fo.2.1 hbs (fun x hx => by have := hsc.2 x hx; have := fo.1; omega) (by have := hsc.1; have := fo.1; omega) ?_
  have i6 : vp_in (nI (gk_fi V b (gw_sc w f.1) f.2.2.1)) 600 := vp_in_nI (by omega) (by decide)
  have e6 : (nI (gk_fi V b (gw_sc w f.1) f.2.2.1)).toNatClampNeg = gk_fi V b (gw_sc w f.1) f.2.2.1 := nI_clamp (by omega)
  refine ⟨i6, nm_r (by rw [e6]) ⟨i6, nm_r (by rw [e6]) ?_⟩⟩
  exact xs_fas (M' := (false, 0, M.2.2)) (V := gk_st V (gk_fi V b (gw_sc w f.1) f.2.2.1) M.2.2.1 M.2.2.2) B (fun _ => ⟨rfl, fun _ => ⟨rfl, rfl⟩⟩) hp
theorem xg_yt (hw : gw_S w) (hq : xq_S w q) (I : gk_I w M S (a :: A') V F G nc sp) (hR : xr_R w q M S (a :: A') V F G N sp u) (hSa : S a = f :: L) (hb : M.1 = false) (hh : M.2.1 = 0) (hst : f.2.1 = 1) (hk : gw_K w f.1 = 22) {g : Nat} (hag : a = 8 + g) (hg : g < G.2.2.2) (h2 : G.1 g = 2) (hc : G.2.1 g = 1)
    (hp : ∀ u', xr_R w q (false, 1, 1, (-4 : Int32).toInt64) (gk_su S a L) (a :: A') V F G N sp u' → post u') : wpX_goOn post u (nI (48 * a + L.length)) := by
  obtain ⟨en, vs, vn, ft, fs, fc, ke, ks, kn, cn, ac, gs, rfl, hP⟩ := hR
  have B := xo_mk hw I hSa hP
  have fo := xs_fo I hSa
  obtain ⟨hen, hv⟩ := hP.1 hb
  obtain ⟨i1, i2, eK, eS, eT, eC⟩ := xs_in hw B fo.1 hk hst
  have hvc := xg_vc I
  have et : ac (nI (a :: A').length - 1).toNatClampNeg = nI a := xm_tp (d := A'.length) rfl B.2.1 B.2.2.2.2.1.1
  have eg : gs g = 4 := by rw [B.2.2.2.2.2.2 g hg, xr_g, if_pos ⟨h2, hc⟩]
  refine ⟨i1, i2, nm_r eK ⟨i1, nm_r eS (br_f (by decide) (br_f (by decide) (br_f (by decide) (br_f (by decide) (br_t (hen.trans hh) (br_f (by decide) (br_t (by decide) ?_)))))))⟩⟩
  refine ⟨i1, nm_r eT ⟨i1, nm_r eC ?_⟩⟩
  repeat (refine br_f (by decide) ?_)
  refine br_t (by decide) ⟨xm_ti (d := A'.length) rfl B.2.1, nm_r (e' := nI g) (by rw [et, hag, gk_g8]) ⟨vp_in_nI (by omega) (by decide), br_t (by rw [nI_clamp (by omega)]; exact eg) ?_⟩⟩
  exact xs_thr B hp
theorem xg_yw (hw : gw_S w) (hq : xq_S w q) (I : gk_I w M S (a :: A') V F G nc sp) (hR : xr_R w q M S (a :: A') V F G N sp u) (hSa : S a = f :: L) (hb : M.1 = false) (hh : M.2.1 = 0) (hst : f.2.1 = 1) (hk : gw_K w f.1 = 22) {g : Nat} (hag : a = 8 + g) (hg : g < G.2.2.2) (h2 : G.1 g = 2) (hc : G.2.1 g = 0)
    (hp : ∀ u', xr_R w q M (gk_su S a ((f.1, 3, f.2.2) :: L)) A' V F (upd G.1 g 1, G.2.1, upd G.2.2.1 g (nI f.1), G.2.2.2) N sp u' → post u') : wpX_goOn post u (nI (48 * a + L.length)) := by
  obtain ⟨en, vs, vn, ft, fs, fc, ke, ks, kn, cn, ac, gs, rfl, hP⟩ := hR
  have B := xo_mk hw I hSa hP
  have fo := xs_fo I hSa
  obtain ⟨hen, hv⟩ := hP.1 hb
  obtain ⟨i1, i2, eK, eS, eT, eC⟩ := xs_in hw B fo.1 hk hst
  have hvc := xg_vc I
  have hl := xo_l B
  have ha := B.1
  have ek : (nI (48 * a + L.length)).toNatClampNeg = 48 * a + L.length := nI_clamp (by omega)
  have et : ac (nI (a :: A').length - 1).toNatClampNeg = nI a := xm_tp (d := A'.length) rfl B.2.1 B.2.2.2.2.1.1
  have eg : gs g = 2 := by rw [B.2.2.2.2.2.2 g hg, xr_g, if_neg (fun z => absurd z.2 (by rw [hc]; decide)), h2]
  have egc : (nI g).toNatClampNeg = g := nI_clamp (by omega)
  refine ⟨i1, i2, nm_r eK ⟨i1, nm_r eS (br_f (by decide) (br_f (by decide) (br_f (by decide) (br_f (by decide) (br_t (hen.trans hh) (br_f (by decide) (br_t (by decide) ?_)))))))⟩⟩
  refine ⟨i1, nm_r eT ⟨i1, nm_r eC ?_⟩⟩
  repeat (refine br_f (by decide) ?_)
  refine br_t (by decide) ⟨xm_ti (d := A'.length) rfl B.2.1, nm_r (e' := nI g) (by rw [et, hag, gk_g8]) ⟨vp_in_nI (by omega) (by decide), br_f (by rw [egc, eg]; decide) ⟨vp_in_nI (by omega) (by decide), nm_r (e' := upd gs g 1) (by rw [egc]) ⟨i1, nm_r (e' := upd fs (48 * a + L.length) 3) (by rw [ek]) (nm_r (e' := nI A'.length) (nI_pred _) ?_)⟩⟩⟩⟩
  refine hp _ ⟨en, vs, vn, ft, _, fc, ke, ks, kn, cn, ac, _, rfl, fun _ => ⟨hen, hv⟩, B.2.2.2.2.1.2, xr_st3 B.2.2.2.2.2.1 B.1 xo_lv B.2.2.1 B.2.2.2.1 ?_ hl, ?_⟩
  · intro s hs _
    rcases hs with h | h
    · exact Or.inl (List.mem_cons_of_mem _ h)
    · exact Or.inr h
  · intro i hi
    show upd gs g 1 i = xr_g (upd G.1 g 1 i) (G.2.1 i)
    by_cases z : i = g
    · subst z
      rw [pk_us, pk_us, xr_g, if_neg (fun z => absurd z.1 (by decide))]
    · rw [pk_un z, pk_un z]
      exact B.2.2.2.2.2.2 i hi
theorem xg_done3 (hw : gw_S w) (hq : xq_S w q) (I : gk_I w M S (a :: A') V F G nc sp) (hR : xr_R w q M S (a :: A') V F G N sp u) (hSa : S a = f :: L) (hb : M.1 = false) (hh : M.2.1 = 0) (hst : f.2.1 = 1) (hk : gw_K w f.1 = 24) (hs : M.2.2.1 ≠ 4)
    (hp : ∀ u', xr_R w q (false, 1, 1, (-3 : Int32).toInt64) (gk_su S a L) (a :: A') V F G N sp u' → post u') : wpX_goOn post u (nI (48 * a + L.length)) := by
  obtain ⟨en, vs, vn, ft, fs, fc, ke, ks, kn, cn, ac, gs, rfl, hP⟩ := hR
  have B := xo_mk hw I hSa hP
  have fo := xs_fo I hSa
  obtain ⟨hen, hv⟩ := hP.1 hb
  obtain ⟨i1, i2, eK, eS, eT, eC⟩ := xs_in hw B fo.1 hk hst
  have hvv := hv (Or.inl hh)
  refine ⟨i1, i2, nm_r eK ⟨i1, nm_r eS (br_f (by decide) (br_f (by decide) (br_f (by decide) (br_f (by decide) (br_t (hen.trans hh) (br_f (by decide) (br_t (by decide) ?_)))))))⟩⟩
  refine ⟨i1, nm_r eT ⟨i1, nm_r eC ?_⟩⟩
  repeat (refine br_f (by decide) ?_)
  refine br_t (by decide) (br_f (by rw [hvv.1]; exact hs) ?_)
  exact xs_thr B hp
theorem xr_g3 {s c : Int32} : xr_g s c = 3 ↔ s = 3 := by
  unfold xr_g
  split
  · rename_i h
    rw [h.1]
    decide
  · exact Iff.rfl
theorem xr_g0 {s c : Int32} : xr_g s c = 0 ↔ s = 0 := by
  unfold xr_g
  split
  · rename_i h
    rw [h.1]
    decide
  · exact Iff.rfl
theorem xg_done (hw : gw_S w) (hq : xq_S w q) (I : gk_I w M S (a :: A') V F G nc sp) (hR : xr_R w q M S (a :: A') V F G N sp u) (hSa : S a = f :: L) (hb : M.1 = false) (hh : M.2.1 = 0) (hst : f.2.1 = 1) (hk : gw_K w f.1 = 24) {g : Nat} (hg : g < G.2.2.2) (hs : M.2.2.1 = 4) (hx : M.2.2.2 = lN g)
    (hp : ∀ u', xr_R w q (false, 0, 1, (if G.1 g = 3 then 1 else 0)) (gk_su S a L) (a :: A') V F G N sp u' → post u') : wpX_goOn post u (nI (48 * a + L.length)) := by
  obtain ⟨en, vs, vn, ft, fs, fc, ke, ks, kn, cn, ac, gs, rfl, hP⟩ := hR
  have B := xo_mk hw I hSa hP
  have fo := xs_fo I hSa
  obtain ⟨hen, hv⟩ := hP.1 hb
  obtain ⟨i1, i2, eK, eS, eT, eC⟩ := xs_in hw B fo.1 hk hst
  have hvc := xg_vc I
  have hvv := hv (Or.inl hh)
  have ev : vn.toInt32 = nI g := by rw [hvv.2, hx, lN_i]
  have eg : gs (vn.toInt32).toNatClampNeg = xr_g (G.1 g) (G.2.1 g) := by rw [ev, nI_clamp (by omega)]; exact B.2.2.2.2.2.2 g hg
  refine ⟨i1, i2, nm_r eK ⟨i1, nm_r eS (br_f (by decide) (br_f (by decide) (br_f (by decide) (br_f (by decide) (br_t (hen.trans hh) (br_f (by decide) (br_t (by decide) ?_)))))))⟩⟩
  refine ⟨i1, nm_r eT ⟨i1, nm_r eC ?_⟩⟩
  repeat (refine br_f (by decide) ?_)
  refine br_t (by decide) (br_t (by rw [hvv.1]; exact hs) ⟨by rw [ev]; exact vp_in_nI (by omega) (by decide), ?_⟩)
  rw [eg]
  by_cases z : G.1 g = 3
  · rw [if_pos z] at hp
    refine br_t (xr_g3.mpr z) ?_
    exact xs_fin B hp
  · rw [if_neg z] at hp
    refine br_f (fun y => z (xr_g3.mp y)) ?_
    exact xs_fin B hp
theorem xg_ent (hw : gw_S w) (I : gk_I w M S (a :: A') V F G nc sp) {en vs : Int32} {vn : Int64} {ft fs fc ke ks : Nat → Int32} {kn : Nat → Int64} {cn ac gs : Nat → Int32}
    (B : xo_B w S A' a f L G ft fs fc ke ks kn cn ac gs) {g : Nat} (hg : g < G.2.2.2) (h1 : G.1 g ≠ 2) (hd : A'.length + 1 < 8) {ns : Int32} {cl' : Nat → Int32}
    (hcl : ∀ i, i ≠ g → cl' i = G.2.1 i) (hns : (ns = 4 ∧ cl' g = 1) ∨ (ns = 2 ∧ cl' g = 0)) (hm : M'.1 = false → (if ns = 4 then 5 else 0) = M'.2.1 ∧ (gk_hv M'.2.1 → vs = M'.2.2.1 ∧ vn = M'.2.2.2))
    (hp : ∀ u', xr_R w q M' (gk_su S a ((f.1, 3, f.2.2) :: L)) ((8 + g) :: a :: A') V F (upd G.1 g 2, cl', G.2.2.1, G.2.2.2) N sp u' → post u') :
    wpX_setToWork post (xr_t w q (a :: A') V F G.2.2.2 N sp en vs vn ft fs fc ke ks kn cn ac gs) (nI (48 * a + L.length)) (nI g) ns := by
  have hvc := xg_vc I
  have hl := xo_l B
  have ha := B.1
  have hgn := I.2.2.1 g hg
  have ek : (nI (48 * a + L.length)).toNatClampNeg = 48 * a + L.length := nI_clamp (by omega)
  have i1 : vp_in (nI (48 * a + L.length)) 768 := vp_in_nI (by omega) (by decide)
  have ig : vp_in (nI g) 8 := vp_in_nI (by omega) (by decide)
  have egc : (nI g).toNatClampNeg = g := nI_clamp (by omega)
  have eg : gs g = G.1 g := by rw [B.2.2.2.2.2.2 g hg, xr_g, if_neg (fun z => h1 z.1)]
  have n4 : gs (nI g).toNatClampNeg ≠ 4 := by
    rw [egc, eg]
    rcases hgn.1 with z | z | z | z <;> (rw [z]; decide)
  have fin : ∀ u', u' = xr_t w q ((8 + g) :: a :: A') V F G.2.2.2 N sp (if ns = 4 then 5 else 0) vs vn ft (upd fs (48 * a + L.length) 3) fc ke ks kn cn (upd ac (A'.length + 1) (nI (8 + g))) (upd gs g ns) → post u' := by
    intro u' e
    refine hp u' ⟨_, _, _, _, _, _, _, _, _, _, _, _, e, hm, ⟨pk_us, xr_Ac _ (fun j hj => pk_un (by have : j < A'.length + 1 := hj; omega)) B.2.2.2.2.1⟩, xr_st3 B.2.2.2.2.2.1 B.1 xo_lv B.2.2.1 B.2.2.2.1 ?_ hl, ?_⟩
    · intro s hs _
      rcases hs with h | h
      · rcases List.mem_cons.mp h with h | h
        · exact Or.inr (by omega)
        · exact Or.inl h
      · exact Or.inr h
    · intro i hi
      show upd gs g ns i = xr_g (upd G.1 g 2 i) (cl' i)
      by_cases z : i = g
      · subst z
        rw [pk_us, pk_us]
        rcases hns with ⟨e1, e2⟩ | ⟨e1, e2⟩
        · rw [e1, e2]; rfl
        · rw [e1, e2]; rfl
      · rw [pk_un z, pk_un z, hcl i z]
        exact B.2.2.2.2.2.2 i hi
  refine ⟨ig, br_f (by rw [egc, eg]; exact h1) ⟨ig, br_f n4 (br_t (nI_lt (b := 8) hd (by decide)) ⟨i1, nm_r (e' := upd fs (48 * a + L.length) 3) (by rw [ek]) ⟨ig, nm_r (e' := upd gs g ns) (by rw [egc]) (br_c (fun z => ?_) (fun z => ?_))⟩⟩)⟩⟩
  · have e8 : (8 : Int32) + nI g = nI (8 + g) := nI_add 8 g
    refine xm_enter (d := A'.length + 1) rfl hd ?_
    rw [if_pos z, ← e8] at fin
    exact fin _ rfl
  · have e8 : (8 : Int32) + nI g = nI (8 + g) := nI_add 8 g
    refine xm_enter (d := A'.length + 1) rfl hd ?_
    rw [if_neg z, ← e8] at fin
    exact fin _ rfl
theorem xg_atw {en vs : Int32} {vn : Int64} {ft fs fc ke ks : Nat → Int32} {kn : Nat → Int64} {cn ac gs : Nat → Int32}
    (B : xo_B w S A' a f L G ft fs fc ke ks kn cn ac gs) {g : Nat} (hg : g < G.2.2.2) (hg8 : G.2.2.2 ≤ 8) (h2 : G.1 g = 2) {ns : Int32}
    (hp : ∀ u', xr_R w q (false, 1, 1, (-4 : Int32).toInt64) (gk_su S a L) (a :: A') V F G N sp u' → post u') :
    wpX_setToWork post (xr_t w q (a :: A') V F G.2.2.2 N sp en vs vn ft fs fc ke ks kn cn ac gs) (nI (48 * a + L.length)) (nI g) ns := by
  have ig : vp_in (nI g) 8 := vp_in_nI (by omega) (by decide)
  have egc : (nI g).toNatClampNeg = g := nI_clamp (by omega)
  have eg := B.2.2.2.2.2.2 g hg
  by_cases z : G.2.1 g = 1
  · rw [xr_g, if_pos ⟨h2, z⟩] at eg
    refine ⟨ig, br_f (by rw [egc, eg]; decide) ⟨ig, br_t (by rw [egc, eg]) ?_⟩⟩
    exact xs_thr B hp
  · rw [xr_g, if_neg (fun y => z y.2), h2] at eg
    refine ⟨ig, br_t (by rw [egc, eg]) ?_⟩
    exact xs_thr B hp
theorem xg_full (I : gk_I w M S (a :: A') V F G nc sp) {en vs : Int32} {vn : Int64} {ft fs fc ke ks : Nat → Int32} {kn : Nat → Int64} {cn ac gs : Nat → Int32}
    (B : xo_B w S A' a f L G ft fs fc ke ks kn cn ac gs) {g : Nat} (hg : g < G.2.2.2) (h2 : G.1 g ≠ 2) (hd : ¬ A'.length + 1 < 8) {ns : Int32}
    (hp : ∀ u', xr_R w q (false, 1, 1, (-5 : Int32).toInt64) (gk_su S a L) (a :: A') V F G N sp u' → post u') :
    wpX_setToWork post (xr_t w q (a :: A') V F G.2.2.2 N sp en vs vn ft fs fc ke ks kn cn ac gs) (nI (48 * a + L.length)) (nI g) ns := by
  have hvc := xg_vc I
  have hgn := I.2.2.1 g hg
  have ig : vp_in (nI g) 8 := vp_in_nI (by omega) (by decide)
  have egc : (nI g).toNatClampNeg = g := nI_clamp (by omega)
  have eg : gs g = G.1 g := by rw [B.2.2.2.2.2.2 g hg, xr_g, if_neg (fun z => h2 z.1)]
  have n4 : gs (nI g).toNatClampNeg ≠ 4 := by
    rw [egc, eg]
    rcases hgn.1 with z | z | z | z <;> (rw [z]; decide)
  refine ⟨ig, br_f (by rw [egc, eg]; exact h2) ⟨ig, br_f n4 (br_f (nI_nlt (a := A'.length + 1) (b := 8) (by omega) (by have := B.2.1; omega)) ?_)⟩⟩
  exact xs_thr B hp
end
end
section
section
variable {w : gw_T} {q : xq_T} {M M' : gm_T} {S : Nat → List gf_T} {a : Nat} {A' : List Nat} {V : gv_T} {F : gp_T} {G : gg_T} {N : gn_T} {nc sp : Nat} {u : SX} {f : gf_T} {L : List gf_T} {post : SX → Prop}
variable {e0 s0 k1 k2 : Int32} {n0 k3 : Int64}
theorem xg_cl3 (hw : gw_S w) (hq : xq_S w q) (I : gk_I w M S (a :: A') V F G nc sp) (hR : xr_R w q M S (a :: A') V F G N sp u) (hSa : S a = f :: L) (hb : M.1 = false) (hh : M.2.1 = 0) (hst : f.2.1 = 1) (hk : gw_K w f.1 = 25) (hs : M.2.2.1 ≠ 4)
    (hp : ∀ u', xr_R w q (false, 1, 1, (-3 : Int32).toInt64) (gk_su S a L) (a :: A') V F G N sp u' → post u') : wpX_goOn post u (nI (48 * a + L.length)) := by
  obtain ⟨en, vs, vn, ft, fs, fc, ke, ks, kn, cn, ac, gs, rfl, hP⟩ := hR
  have B := xo_mk hw I hSa hP
  have fo := xs_fo I hSa
  obtain ⟨hen, hv⟩ := hP.1 hb
  obtain ⟨i1, i2, eK, eS, eT, eC⟩ := xs_in hw B fo.1 hk hst
  have hvv := hv (Or.inl hh)
  refine ⟨i1, i2, nm_r eK ⟨i1, nm_r eS (br_f (by decide) (br_f (by decide) (br_f (by decide) (br_f (by decide) (br_t (hen.trans hh) (br_f (by decide) (br_t (by decide) ?_)))))))⟩⟩
  refine ⟨i1, nm_r eT ⟨i1, nm_r eC ?_⟩⟩
  repeat (refine br_f (by decide) ?_)
  refine br_t (by decide) (br_f (by rw [hvv.1]; exact hs) ?_)
  exact xs_thr B hp
theorem xg_clE (hw : gw_S w) (hq : xq_S w q) (I : gk_I w M S (a :: A') V F G nc sp) (hR : xr_R w q M S (a :: A') V F G N sp u) (hSa : S a = f :: L) (hb : M.1 = false) (hh : M.2.1 = 0) (hst : f.2.1 = 1) (hk : gw_K w f.1 = 25) {g : Nat} (hg : g < G.2.2.2) (hs : M.2.2.1 = 4) (hx : M.2.2.2 = lN g) (h03 : G.1 g = 0 ∨ G.1 g = 3)
    (hp : ∀ u', xr_R w q (false, 0, 0, 0) (gk_su S a L) (a :: A') V F (upd G.1 g 3, G.2.1, G.2.2.1, G.2.2.2) N sp u' → post u') : wpX_goOn post u (nI (48 * a + L.length)) := by
  obtain ⟨en, vs, vn, ft, fs, fc, ke, ks, kn, cn, ac, gs, rfl, hP⟩ := hR
  have B := xo_mk hw I hSa hP
  have fo := xs_fo I hSa
  obtain ⟨hen, hv⟩ := hP.1 hb
  obtain ⟨i1, i2, eK, eS, eT, eC⟩ := xs_in hw B fo.1 hk hst
  have hvc := xg_vc I
  have hvv := hv (Or.inl hh)
  have ev : vn.toInt32 = nI g := by rw [hvv.2, hx, lN_i]
  have egc : (nI g).toNatClampNeg = g := nI_clamp (by omega)
  have ig : vp_in vn.toInt32 8 := by rw [ev]; exact vp_in_nI (by omega) (by decide)
  have eg : gs (vn.toInt32).toNatClampNeg = xr_g (G.1 g) (G.2.1 g) := by rw [ev, egc]; exact B.2.2.2.2.2.2 g hg
  have B2 : xo_B w S A' a f L (upd G.1 g 3, G.2.1, G.2.2.1, G.2.2.2) ft fs fc ke ks kn cn ac (upd gs g 3) := by
    refine ⟨B.1, B.2.1, B.2.2.1, B.2.2.2.1, B.2.2.2.2.1, B.2.2.2.2.2.1, ?_⟩
    intro i hi
    show upd gs g 3 i = xr_g (upd G.1 g 3 i) (G.2.1 i)
    by_cases z : i = g
    · subst z
      rw [pk_us, pk_us, xr_g, if_neg (fun z => absurd z.1 (by decide))]
    · rw [pk_un z, pk_un z]
      exact B.2.2.2.2.2.2 i hi
  refine ⟨i1, i2, nm_r eK ⟨i1, nm_r eS (br_f (by decide) (br_f (by decide) (br_f (by decide) (br_f (by decide) (br_t (hen.trans hh) (br_f (by decide) (br_t (by decide) ?_)))))))⟩⟩
  refine ⟨i1, nm_r eT ⟨i1, nm_r eC ?_⟩⟩
  repeat (refine br_f (by decide) ?_)
  refine br_t (by decide) (br_t (by rw [hvv.1]; exact hs) ⟨ig, ?_⟩)
  rcases h03 with z | z
  · refine br_t (by rw [eg]; exact xr_g0.mpr z) ⟨ig, nm_r (e' := upd gs g 3) (by rw [ev, egc]) ?_⟩
    exact xs_fin (G := (upd G.1 g 3, G.2.1, G.2.2.1, G.2.2.2)) B2 hp
  · refine br_f (by rw [eg, xr_g0, z]; decide) ⟨ig, br_t (by rw [eg]; exact xr_g3.mpr z) ⟨ig, nm_r (e' := upd gs g 3) (by rw [ev, egc]) ?_⟩⟩
    exact xs_fin (G := (upd G.1 g 3, G.2.1, G.2.2.1, G.2.2.2)) B2 hp
theorem xg_clW (hw : gw_S w) (hq : xq_S w q) (I : gk_I w M S (a :: A') V F G nc sp) (hR : xr_R w q M S (a :: A') V F G N sp u) (hSa : S a = f :: L) (hb : M.1 = false) (hh : M.2.1 = 0) (hst : f.2.1 = 1) (hk : gw_K w f.1 = 25) {g : Nat} (hg : g < G.2.2.2) (hs : M.2.2.1 = 4) (hx : M.2.2.2 = lN g) (h2 : G.1 g = 2)
    (hp : ∀ u', xr_R w q (false, 1, 1, (-4 : Int32).toInt64) (gk_su S a L) (a :: A') V F G N sp u' → post u') : wpX_goOn post u (nI (48 * a + L.length)) := by
  obtain ⟨en, vs, vn, ft, fs, fc, ke, ks, kn, cn, ac, gs, rfl, hP⟩ := hR
  have B := xo_mk hw I hSa hP
  have fo := xs_fo I hSa
  obtain ⟨hen, hv⟩ := hP.1 hb
  obtain ⟨i1, i2, eK, eS, eT, eC⟩ := xs_in hw B fo.1 hk hst
  have hvc := xg_vc I
  have hvv := hv (Or.inl hh)
  have ev : vn.toInt32 = nI g := by rw [hvv.2, hx, lN_i]
  have egc : (nI g).toNatClampNeg = g := nI_clamp (by omega)
  have ig : vp_in vn.toInt32 8 := by rw [ev]; exact vp_in_nI (by omega) (by decide)
  have eg : gs (vn.toInt32).toNatClampNeg = xr_g (G.1 g) (G.2.1 g) := by rw [ev, egc]; exact B.2.2.2.2.2.2 g hg
  refine ⟨i1, i2, nm_r eK ⟨i1, nm_r eS (br_f (by decide) (br_f (by decide) (br_f (by decide) (br_f (by decide) (br_t (hen.trans hh) (br_f (by decide) (br_t (by decide) ?_)))))))⟩⟩
  refine ⟨i1, nm_r eT ⟨i1, nm_r eC ?_⟩⟩
  repeat (refine br_f (by decide) ?_)
  refine br_t (by decide) (br_t (by rw [hvv.1]; exact hs) ⟨ig, br_f (by rw [eg, xr_g0, h2]; decide) ⟨ig, br_f (by rw [eg, xr_g3, h2]; decide) ?_⟩⟩)
  rw [ev]
  exact xg_atw B hg hvc.2.2 h2 hp
theorem xg_clF (hw : gw_S w) (hq : xq_S w q) (I : gk_I w M S (a :: A') V F G nc sp) (hR : xr_R w q M S (a :: A') V F G N sp u) (hSa : S a = f :: L) (hb : M.1 = false) (hh : M.2.1 = 0) (hst : f.2.1 = 1) (hk : gw_K w f.1 = 25) {g : Nat} (hg : g < G.2.2.2) (hs : M.2.2.1 = 4) (hx : M.2.2.2 = lN g) (h2 : G.1 g = 1) (hd : ¬ A'.length + 1 < 8)
    (hp : ∀ u', xr_R w q (false, 1, 1, (-5 : Int32).toInt64) (gk_su S a L) (a :: A') V F G N sp u' → post u') : wpX_goOn post u (nI (48 * a + L.length)) := by
  obtain ⟨en, vs, vn, ft, fs, fc, ke, ks, kn, cn, ac, gs, rfl, hP⟩ := hR
  have B := xo_mk hw I hSa hP
  have fo := xs_fo I hSa
  obtain ⟨hen, hv⟩ := hP.1 hb
  obtain ⟨i1, i2, eK, eS, eT, eC⟩ := xs_in hw B fo.1 hk hst
  have hvc := xg_vc I
  have hvv := hv (Or.inl hh)
  have ev : vn.toInt32 = nI g := by rw [hvv.2, hx, lN_i]
  have egc : (nI g).toNatClampNeg = g := nI_clamp (by omega)
  have ig : vp_in vn.toInt32 8 := by rw [ev]; exact vp_in_nI (by omega) (by decide)
  have eg : gs (vn.toInt32).toNatClampNeg = xr_g (G.1 g) (G.2.1 g) := by rw [ev, egc]; exact B.2.2.2.2.2.2 g hg
  refine ⟨i1, i2, nm_r eK ⟨i1, nm_r eS (br_f (by decide) (br_f (by decide) (br_f (by decide) (br_f (by decide) (br_t (hen.trans hh) (br_f (by decide) (br_t (by decide) ?_)))))))⟩⟩
  refine ⟨i1, nm_r eT ⟨i1, nm_r eC ?_⟩⟩
  repeat (refine br_f (by decide) ?_)
  refine br_t (by decide) (br_t (by rw [hvv.1]; exact hs) ⟨ig, br_f (by rw [eg, xr_g0, h2]; decide) ⟨ig, br_f (by rw [eg, xr_g3, h2]; decide) ?_⟩⟩)
  rw [ev]
  exact xg_full I B hg (by rw [h2]; decide) hd hp
theorem xg_cl (hw : gw_S w) (hq : xq_S w q) (I : gk_I w M S (a :: A') V F G nc sp) (hR : xr_R w q M S (a :: A') V F G N sp u) (hSa : S a = f :: L) (hb : M.1 = false) (hh : M.2.1 = 0) (hst : f.2.1 = 1) (hk : gw_K w f.1 = 25) {g : Nat} (hg : g < G.2.2.2) (hs : M.2.2.1 = 4) (hx : M.2.2.2 = lN g) (h2 : G.1 g = 1) (hd : A'.length + 1 < 8)
    (hp : ∀ u', xr_R w q (false, 5, 0, 0) (gk_su S a ((f.1, 3, f.2.2) :: L)) ((8 + g) :: a :: A') V F (upd G.1 g 2, upd G.2.1 g 1, G.2.2.1, G.2.2.2) N sp u' → post u') : wpX_goOn post u (nI (48 * a + L.length)) := by
  obtain ⟨en, vs, vn, ft, fs, fc, ke, ks, kn, cn, ac, gs, rfl, hP⟩ := hR
  have B := xo_mk hw I hSa hP
  have fo := xs_fo I hSa
  obtain ⟨hen, hv⟩ := hP.1 hb
  obtain ⟨i1, i2, eK, eS, eT, eC⟩ := xs_in hw B fo.1 hk hst
  have hvc := xg_vc I
  have hvv := hv (Or.inl hh)
  have ev : vn.toInt32 = nI g := by rw [hvv.2, hx, lN_i]
  have egc : (nI g).toNatClampNeg = g := nI_clamp (by omega)
  have ig : vp_in vn.toInt32 8 := by rw [ev]; exact vp_in_nI (by omega) (by decide)
  have eg : gs (vn.toInt32).toNatClampNeg = xr_g (G.1 g) (G.2.1 g) := by rw [ev, egc]; exact B.2.2.2.2.2.2 g hg
  refine ⟨i1, i2, nm_r eK ⟨i1, nm_r eS (br_f (by decide) (br_f (by decide) (br_f (by decide) (br_f (by decide) (br_t (hen.trans hh) (br_f (by decide) (br_t (by decide) ?_)))))))⟩⟩
  refine ⟨i1, nm_r eT ⟨i1, nm_r eC ?_⟩⟩
  repeat (refine br_f (by decide) ?_)
  refine br_t (by decide) (br_t (by rw [hvv.1]; exact hs) ⟨ig, br_f (by rw [eg, xr_g0, h2]; decide) ⟨ig, br_f (by rw [eg, xr_g3, h2]; decide) ?_⟩⟩)
  rw [ev]
  exact xg_ent (M' := (false, 5, 0, 0)) (cl' := upd G.2.1 g 1) hw I B hg (by rw [h2]; decide) hd (fun i hi => pk_un hi) (Or.inl ⟨rfl, pk_us⟩) (fun _ => ⟨rfl, fun z => absurd z (by unfold gk_hv; decide)⟩) hp
theorem xg_shn {en vs : Int32} {vn : Int64} {ft fs fc ke ks : Nat → Int32} {kn : Nat → Int64} {cn ac gs : Nat → Int32} {A : List Nat} {gc : Nat} {post : Int64 → Prop} (hf : F.2.2 ≤ 600) (hvv : gk_VV F.2.2 gc vs vn) (hp : post (gk_sh F vs vn)) :
    wpX_shownNumber post (xr_t w q A V F G.2.2.2 N sp en vs vn ft fs fc ke ks kn cn ac gs) := by
  refine br_c (fun z => ?_) (fun z => ?_)
  · rw [gk_sh, if_pos z] at hp
    rcases hvv with h | ⟨_, i, hi, e⟩ | ⟨h, _⟩
    · rw [z] at h; exact absurd h (by decide)
    · refine ⟨?_, hp⟩
      rw [e, lN_i]
      exact vp_in_nI (by omega) (by decide)
    · rw [z] at h; exact absurd h (by decide)
  · rw [gk_sh, if_neg z] at hp
    exact hp
theorem xg_host (hw : gw_S w) (hq : xq_S w q) (I : gk_I w M S (a :: A') V F G nc sp) (hR : xr_R w q M S (a :: A') V F G N sp u) (hSa : S a = f :: L) (hb : M.1 = false) (hh : M.2.1 = 0) (hst : f.2.1 = 1) (hk : gw_K w f.1 = 26) (hnc : N.2.2 ≤ 600) (hvv : gk_VV F.2.2 G.2.2.2 M.2.2.1 M.2.2.2)
    (hp : ∀ u', xr_R w q (false, (if M.2.2.1 = 1 ∧ M.2.2.2 < 0 then 1 else 0), M.2.2) (gk_su S a L) (a :: A') V F G (gk_nt F N M.2.2.1 M.2.2.2) sp u' → post u') : wpX_goOn post u (nI (48 * a + L.length)) := by
  obtain ⟨en, vs, vn, ft, fs, fc, ke, ks, kn, cn, ac, gs, rfl, hP⟩ := hR
  have B := xo_mk hw I hSa hP
  have fo := xs_fo I hSa
  obtain ⟨hen, hv⟩ := hP.1 hb
  obtain ⟨i1, i2, eK, eS, eT, eC⟩ := xs_in hw B fo.1 hk hst
  have hvc := xg_vc I
  obtain ⟨rfl, rfl⟩ := hv (Or.inl hh)
  have fin : ∀ (ns : Nat → Int32) (nn : Nat → Int64), (ns, nn, N.2.2 + 1) = gk_nt F N M.2.2.1 M.2.2.2 →
      wX_noteValue_35 post q.1 q.2.1 q.2.2.1 (nI (a :: A').length) (nI V.2.2.2.2) (nI F.2.2) (nI G.2.2.2) en M.2.2.1 M.2.2.2 (nI N.2.2) (nI sp) q.2.2.2.1 q.2.2.2.2.1 q.2.2.2.2.2.1 (gw_K w) (gw_v w) q.2.2.2.2.2.2.1 q.2.2.2.2.2.2.2.1 q.2.2.2.2.2.2.2.2 (gw_mn w) (gw_gn w) ft fs fc ke ks kn cn ac V.1 V.2.1 V.2.2.1 V.2.2.2.1 F.1 F.2.1 gs ns nn := by
    intro ns nn e
    rw [← e] at hp
    refine nm_r (nI_1 N.2.2) (br_c (fun z => br_c (fun y => br_t (by decide) ?_) (fun y => br_f (by decide) ?_)) (fun z => br_t (by decide) ?_))
    · rw [if_neg (fun c => absurd c.2 (Int64.not_lt.mpr y))] at hp
      exact xs_fas (N := (ns, nn, N.2.2 + 1)) (M' := (false, 0, M.2.2)) B (fun _ => ⟨rfl, fun _ => ⟨rfl, rfl⟩⟩) hp
    · rw [if_pos ⟨z, Int64.not_le.mp y⟩] at hp
      exact xs_fas (N := (ns, nn, N.2.2 + 1)) (M' := (false, 1, M.2.2)) B (fun _ => ⟨rfl, fun _ => ⟨rfl, rfl⟩⟩) hp
    · rw [if_neg (fun c => z c.1)] at hp
      exact xs_fas (N := (ns, nn, N.2.2 + 1)) (M' := (false, 0, M.2.2)) B (fun _ => ⟨rfl, fun _ => ⟨rfl, rfl⟩⟩) hp
  refine ⟨i1, i2, nm_r eK ⟨i1, nm_r eS (br_f (by decide) (br_f (by decide) (br_f (by decide) (br_f (by decide) (br_t (hen.trans hh) (br_f (by decide) (br_t (by decide) ?_)))))))⟩⟩
  refine ⟨i1, nm_r eT ⟨i1, nm_r eC ?_⟩⟩
  repeat (refine br_f (by decide) ?_)
  refine br_t (by decide) ?_
  by_cases c : N.2.2 < 40
  · have i4 : vp_in (nI N.2.2) 40 := vp_in_nI c (by decide)
    have e4 : (nI N.2.2).toNatClampNeg = N.2.2 := nI_clamp (by omega)
    refine br_f (nI_ge (b := 40) c (by decide)) ⟨i4, nm_r (e' := upd N.1 N.2.2 M.2.2.1) (by rw [e4]) ?_⟩
    refine xg_shn (N := (upd N.1 N.2.2 M.2.2.1, N.2)) (gc := G.2.2.2) hvc.2.1 hvv ⟨i4, nm_r (e' := vp_updL N.2.1 N.2.2 (gk_sh F M.2.2.1 M.2.2.2)) (by rw [e4]) ?_⟩
    exact fin _ _ (by rw [gk_nt, if_pos c])
  · refine br_t (nI_le (a := 40) (by omega) (by omega)) ?_
    exact fin _ _ (by rw [gk_nt, if_neg c])
theorem xg_kp {cl : Prop} {ft fs fc ke ks : Nat → Int32} {kn : Nat → Int64} {cn ac gs : Nat → Int32} (fo : gk_FO w V F.2.2 G.2.2.2 cl f) (B : xo_B w S A' a f L G ft fs fc ke ks kn cn ac gs) (hst : f.2.1 = 2) (h14 : gw_K w f.1 ≠ 14) (h21 : gw_K w f.1 ≠ 21) :
    ks (nI (48 * a + L.length)).toNatClampNeg = f.2.2.2.2.1 ∧ kn (nI (48 * a + L.length)).toNatClampNeg = f.2.2.2.2.2 := by
  have hl := xo_l B
  have ha := B.1
  have ek : (nI (48 * a + L.length)).toNatClampNeg = 48 * a + L.length := nI_clamp (by omega)
  have h0 := (fo.2.2.2.2.2.2 hst h14).2.2.2.2 h21
  rw [ek]
  exact ((xo_f B).2.2.2 hst h14).2 (Or.inl h0)
theorem xg_ap3 (hw : gw_S w) (hq : xq_S w q) (I : gk_I w M S (a :: A') V F G nc sp) (hR : xr_R w q M S (a :: A') V F G N sp u) (hSa : S a = f :: L) (hb : M.1 = false) (hh : M.2.1 = 0) (hst : f.2.1 = 2) (hk : gw_K w f.1 = 6) (hs : f.2.2.2.2.1 ≠ 3)
    (hp : ∀ u', xr_R w q (false, 1, 1, (-3 : Int32).toInt64) (gk_su S a L) (a :: A') V F G N sp u' → post u') : wpX_goOn post u (nI (48 * a + L.length)) := by
  obtain ⟨en, vs, vn, ft, fs, fc, ke, ks, kn, cn, ac, gs, rfl, hP⟩ := hR
  have B := xo_mk hw I hSa hP
  have fo := xs_fo I hSa
  obtain ⟨hen, hv⟩ := hP.1 hb
  obtain ⟨i1, i2, eK, eS, eT, eC⟩ := xs_in hw B fo.1 hk hst
  have hkp := xg_kp fo B hst (by rw [hk]; decide) (by rw [hk]; decide)
  refine ⟨i1, i2, nm_r eK ⟨i1, nm_r eS (br_f (by decide) (br_f (by decide) (br_f (by decide) (br_f (by decide) (br_t (hen.trans hh) (br_f (by decide) (br_f (by decide) ⟨i1, nm_r hkp.1 ⟨i1, nm_r hkp.2 ?_⟩⟩)))))))⟩⟩
  refine br_t (by decide) ⟨i1, br_f (by rw [hkp.1]; exact hs) ?_⟩
  exact xs_thr B hp
theorem xg_apF (hw : gw_S w) (hq : xq_S w q) (I : gk_I w M S (a :: A') V F G nc sp) (hR : xr_R w q M S (a :: A') V F G N sp u) (hSa : S a = f :: L) (hb : M.1 = false) (hh : M.2.1 = 0) (hst : f.2.1 = 2) (hk : gw_K w f.1 = 6) (hs : f.2.2.2.2.1 = 3) {i t : Nat} (hx : f.2.2.2.2.2 = lN i) (hi : i < F.2.2) (ht : t < gw_n w) (hft : F.1 i = nI t) (hg : gw_gn w t = 0) (hd : ¬ A'.length + 1 < 8)
    (hp : ∀ u', xr_R w q (false, 1, 1, (-5 : Int32).toInt64) (gk_su S a L) (a :: A') V F G N sp u' → post u') : wpX_goOn post u (nI (48 * a + L.length)) := by
  obtain ⟨en, vs, vn, ft, fs, fc, ke, ks, kn, cn, ac, gs, rfl, hP⟩ := hR
  have B := xo_mk hw I hSa hP
  have fo := xs_fo I hSa
  obtain ⟨hen, hv⟩ := hP.1 hb
  obtain ⟨i1, i2, eK, eS, eT, eC⟩ := xs_in hw B fo.1 hk hst
  have hkp := xg_kp fo B hst (by rw [hk]; decide) (by rw [hk]; decide)
  have hvc := xg_vc I
  have hn := hw.2.2.1
  have ec : (nI i).toNatClampNeg = i := nI_clamp (by omega)
  have etc : (nI t).toNatClampNeg = t := nI_clamp (by omega)
  have i6 : vp_in (nI i) 600 := vp_in_nI (by omega) (by decide)
  have i4 : vp_in (nI t) 48 := vp_in_nI (by omega) (by decide)
  have ex : (kn (nI (48 * a + L.length)).toNatClampNeg).toInt32 = nI i := by rw [hkp.2, hx, lN_i]
  have eF : F.1 (nI i).toNatClampNeg = nI t := by rw [ec, hft]
  refine ⟨i1, i2, nm_r eK ⟨i1, nm_r eS (br_f (by decide) (br_f (by decide) (br_f (by decide) (br_f (by decide) (br_t (hen.trans hh) (br_f (by decide) (br_f (by decide) ⟨i1, nm_r hkp.1 ⟨i1, nm_r hkp.2 ?_⟩⟩)))))))⟩⟩
  refine br_t (by decide) ⟨i1, br_t (by rw [hkp.1]; exact hs) ⟨i1, nm_r ex ⟨i6, nm_r eF ⟨i4, ?_⟩⟩⟩⟩
  refine br_t (by rw [etc]; exact hg) (br_f (nI_nlt (a := A'.length + 1) (b := 8) (by omega) (by have := B.2.1; omega)) ?_)
  exact xs_thr B hp
theorem xg_vlt (I : gk_I w M S (a :: A') V F G nc sp) (hSa : S a = f :: L) (hst : f.2.1 = 1 ∨ f.2.1 = 2) : V.2.2.2.2 < 600 := by
  have h5 := I.2.2.2.2.1
  have h := gk_sms gk_yl S a [] 16 (gk_Ia I)
  have h2 : gk_yl (S a) = gk_yl L + 1 := by rw [hSa]; exact if_pos hst
  have h3 : gk_yl [] = 0 := rfl
  omega
theorem xg_ap (hw : gw_S w) (hq : xq_S w q) (I : gk_I w M S (a :: A') V F G nc sp) (hR : xr_R w q M S (a :: A') V F G N sp u) (hSa : S a = f :: L) (hb : M.1 = false) (hh : M.2.1 = 0) (hst : f.2.1 = 2) (hk : gw_K w f.1 = 6) (hs : f.2.2.2.2.1 = 3) {i t : Nat} (hx : f.2.2.2.2.2 = lN i) (hi : i < F.2.2) (ht : t < gw_n w) (hft : F.1 i = nI t) (hg : gw_gn w t = 0) (hd : A'.length + 1 < 8) (hm : M'.1 = true)
    (hp : ∀ u', xr_R w q M' (gk_su (gk_su S a ((f.1, 3, f.2.2) :: L)) (A'.length + 1) [(t + 1, 0, nI V.2.2.2.2, e0, s0, n0)]) ((A'.length + 1) :: a :: A') (gk_bd V (nI t) (F.2.1 i) M.2.2.1 M.2.2.2) F G N sp u' → post u') : wpX_goOn post u (nI (48 * a + L.length)) := by
  obtain ⟨en, vs, vn, ft, fs, fc, ke, ks, kn, cn, ac, gs, rfl, hP⟩ := hR
  have B := xo_mk hw I hSa hP
  have fo := xs_fo I hSa
  obtain ⟨hen, hv⟩ := hP.1 hb
  obtain ⟨i1, i2, eK, eS, eT, eC⟩ := xs_in hw B fo.1 hk hst
  have hkp := xg_kp fo B hst (by rw [hk]; decide) (by rw [hk]; decide)
  have hl := xo_l B
  have ha := B.1
  have ek : (nI (48 * a + L.length)).toNatClampNeg = 48 * a + L.length := nI_clamp (by omega)
  obtain ⟨rfl, rfl⟩ := hv (Or.inl hh)
  have hvc := xg_vc I
  have hn := hw.2.2.1
  have ec : (nI i).toNatClampNeg = i := nI_clamp (by omega)
  have etc : (nI t).toNatClampNeg = t := nI_clamp (by omega)
  have i6 : vp_in (nI i) 600 := vp_in_nI (by omega) (by decide)
  have i4 : vp_in (nI t) 48 := vp_in_nI (by omega) (by decide)
  have ex : (kn (nI (48 * a + L.length)).toNatClampNeg).toInt32 = nI i := by rw [hkp.2, hx, lN_i]
  have eF : F.1 (nI i).toNatClampNeg = nI t := by rw [ec, hft]
  refine ⟨i1, i2, nm_r eK ⟨i1, nm_r eS (br_f (by decide) (br_f (by decide) (br_f (by decide) (br_f (by decide) (br_t (hen.trans hh) (br_f (by decide) (br_f (by decide) ⟨i1, nm_r hkp.1 ⟨i1, nm_r hkp.2 ?_⟩⟩)))))))⟩⟩
  refine br_t (by decide) ⟨i1, br_t (by rw [hkp.1]; exact hs) ⟨i1, nm_r ex ⟨i6, nm_r eF ⟨i4, ?_⟩⟩⟩⟩
  refine br_t (by rw [etc]; exact hg) (br_t (nI_lt (b := 8) hd (by decide)) ⟨i6, ?_⟩)
  rw [ec]
  refine xm_newVar (v := V.2.2.2.2) rfl (xg_vlt I hSa (Or.inr hst)) ⟨i1, nm_r (e' := upd fs (48 * a + L.length) 3) (by rw [ek]) ?_⟩
  rw [nI_1 t]
  refine xm_start (d := A'.length + 1) rfl hd ?_
  have had : ∀ s, s ∈ a :: A' → s ≠ A'.length + 1 := by
    intro s hs
    rcases gk_AOm _ I.2.1.1 s hs with z | z
    · have z2 : s < A'.length + 1 := z
      omega
    · omega
  refine hp _ ⟨en, M.2.2.1, M.2.2.2, _, _, _, ke, ks, kn, _, _, gs, rfl, fun z => absurd (hm.symm.trans z) (by decide), ⟨pk_us, xr_Ac _ (fun j hj => pk_un (by have : j < A'.length + 1 := hj; omega)) B.2.2.2.2.1⟩, xr_lay (xr_st3 (P' := gk_lv (a :: A') G.2.2.2) B.2.2.2.2.2.1 B.1 xo_lv B.2.2.1 B.2.2.2.1 (fun s q _ => q) hl) ?_ ?_, B.2.2.2.2.2.2⟩
  · intro s h16 hs
    by_cases z : s = a
    · subst z
      rw [gk_sus]
      exact hl
    · rw [gk_sun z]
      exact B.2.2.1 s h16 hs
  · intro s hs hne
    rcases hs with h | h
    · rcases List.mem_cons.mp h with h | h
      · exact absurd h hne
      · exact Or.inl h
    · exact Or.inr h
theorem xg_apG (hw : gw_S w) (hq : xq_S w q) (I : gk_I w M S (a :: A') V F G nc sp) (hR : xr_R w q M S (a :: A') V F G N sp u) (hSa : S a = f :: L) (hb : M.1 = false) (hh : M.2.1 = 0) (hst : f.2.1 = 2) (hk : gw_K w f.1 = 6) (hs : f.2.2.2.2.1 = 3) {i t : Nat} (hx : f.2.2.2.2.2 = lN i) (hi : i < F.2.2) (ht : t < gw_n w) (hft : F.1 i = nI t) (hg : gw_gn w t = 1) (hd : ¬ G.2.2.2 < 8)
    (hp : ∀ u', xr_R w q (false, 1, 1, (-6 : Int32).toInt64) (gk_su S a L) (a :: A') V F G N sp u' → post u') : wpX_goOn post u (nI (48 * a + L.length)) := by
  obtain ⟨en, vs, vn, ft, fs, fc, ke, ks, kn, cn, ac, gs, rfl, hP⟩ := hR
  have B := xo_mk hw I hSa hP
  have fo := xs_fo I hSa
  obtain ⟨hen, hv⟩ := hP.1 hb
  obtain ⟨i1, i2, eK, eS, eT, eC⟩ := xs_in hw B fo.1 hk hst
  have hkp := xg_kp fo B hst (by rw [hk]; decide) (by rw [hk]; decide)
  have hvc := xg_vc I
  have hn := hw.2.2.1
  have ec : (nI i).toNatClampNeg = i := nI_clamp (by omega)
  have etc : (nI t).toNatClampNeg = t := nI_clamp (by omega)
  have i6 : vp_in (nI i) 600 := vp_in_nI (by omega) (by decide)
  have i4 : vp_in (nI t) 48 := vp_in_nI (by omega) (by decide)
  have ex : (kn (nI (48 * a + L.length)).toNatClampNeg).toInt32 = nI i := by rw [hkp.2, hx, lN_i]
  have eF : F.1 (nI i).toNatClampNeg = nI t := by rw [ec, hft]
  refine ⟨i1, i2, nm_r eK ⟨i1, nm_r eS (br_f (by decide) (br_f (by decide) (br_f (by decide) (br_f (by decide) (br_t (hen.trans hh) (br_f (by decide) (br_f (by decide) ⟨i1, nm_r hkp.1 ⟨i1, nm_r hkp.2 ?_⟩⟩)))))))⟩⟩
  refine br_t (by decide) ⟨i1, br_t (by rw [hkp.1]; exact hs) ⟨i1, nm_r ex ⟨i6, nm_r eF ⟨i4, ?_⟩⟩⟩⟩
  refine br_f (by rw [etc, hg]; decide) ⟨i6, br_f (nI_nlt (b := 8) (by omega) (by omega)) ?_⟩
  exact xs_thr B hp
theorem xg_apM (hw : gw_S w) (hq : xq_S w q) (I : gk_I w M S (a :: A') V F G nc sp) (hR : xr_R w q M S (a :: A') V F G N sp u) (hSa : S a = f :: L) (hb : M.1 = false) (hh : M.2.1 = 0) (hst : f.2.1 = 2) (hk : gw_K w f.1 = 6) (hs : f.2.2.2.2.1 = 3) {i t : Nat} (hx : f.2.2.2.2.2 = lN i) (hi : i < F.2.2) (ht : t < gw_n w) (hft : F.1 i = nI t) (hg : gw_gn w t = 1) (hd : G.2.2.2 < 8)
    (hp : ∀ u', xr_R w q (false, 0, 4, lN G.2.2.2) (gk_su (gk_su S (8 + G.2.2.2) [(t + 1, 0, nI V.2.2.2.2, e0, s0, n0)]) a L) (a :: A') (gk_bd V (nI t) (F.2.1 i) M.2.2.1 M.2.2.2) F (upd G.1 G.2.2.2 0, upd G.2.1 G.2.2.2 0, G.2.2.1, G.2.2.2 + 1) N sp u' → post u') : wpX_goOn post u (nI (48 * a + L.length)) := by
  obtain ⟨en, vs, vn, ft, fs, fc, ke, ks, kn, cn, ac, gs, rfl, hP⟩ := hR
  have B := xo_mk hw I hSa hP
  have fo := xs_fo I hSa
  obtain ⟨hen, hv⟩ := hP.1 hb
  obtain ⟨i1, i2, eK, eS, eT, eC⟩ := xs_in hw B fo.1 hk hst
  have hkp := xg_kp fo B hst (by rw [hk]; decide) (by rw [hk]; decide)
  have hl := xo_l B
  have ha := B.1
  have hag := gk_AOg _ I.2.1.1 I.2.1.2 a (List.mem_cons_self ..)
  obtain ⟨rfl, rfl⟩ := hv (Or.inl hh)
  have hvc := xg_vc I
  have hn := hw.2.2.1
  have ec : (nI i).toNatClampNeg = i := nI_clamp (by omega)
  have etc : (nI t).toNatClampNeg = t := nI_clamp (by omega)
  have i6 : vp_in (nI i) 600 := vp_in_nI (by omega) (by decide)
  have i4 : vp_in (nI t) 48 := vp_in_nI (by omega) (by decide)
  have ex : (kn (nI (48 * a + L.length)).toNatClampNeg).toInt32 = nI i := by rw [hkp.2, hx, lN_i]
  have eF : F.1 (nI i).toNatClampNeg = nI t := by rw [ec, hft]
  refine ⟨i1, i2, nm_r eK ⟨i1, nm_r eS (br_f (by decide) (br_f (by decide) (br_f (by decide) (br_f (by decide) (br_t (hen.trans hh) (br_f (by decide) (br_f (by decide) ⟨i1, nm_r hkp.1 ⟨i1, nm_r hkp.2 ?_⟩⟩)))))))⟩⟩
  refine br_t (by decide) ⟨i1, br_t (by rw [hkp.1]; exact hs) ⟨i1, nm_r ex ⟨i6, nm_r eF ⟨i4, ?_⟩⟩⟩⟩
  refine br_f (by rw [etc, hg]; decide) ⟨i6, br_t (nI_lt (b := 8) hd (by decide)) ?_⟩
  rw [ec]
  refine xm_newVar (v := V.2.2.2.2) rfl (xg_vlt I hSa (Or.inr hst)) ?_
  have e8 : (8 : Int32) + nI G.2.2.2 = nI (8 + G.2.2.2) := nI_add 8 _
  rw [nI_1 t, e8]
  refine xm_lay (by omega) ⟨vp_in_nI hd (by decide), nm_r (e' := upd gs G.2.2.2 0) (by rw [nI_clamp (by omega)]) (nm_r (nI_1 _) ?_)⟩
  rw [nI_l (by omega)]
  have B2 : xo_B w (gk_su S (8 + G.2.2.2) [(t + 1, 0, nI V.2.2.2.2, e0, s0, n0)]) A' a f L (upd G.1 G.2.2.2 0, upd G.2.1 G.2.2.2 0, G.2.2.1, G.2.2.2 + 1)
      (upd ft (48 * (8 + G.2.2.2)) (nI (t + 1))) (upd fs (48 * (8 + G.2.2.2)) 0) (upd fc (48 * (8 + G.2.2.2)) (nI V.2.2.2.2)) ke ks kn (upd cn (8 + G.2.2.2) 1) ac (upd gs G.2.2.2 0) := by
    have hlv : ∀ s, gk_lv (a :: A') (G.2.2.2 + 1) s → s ≠ 8 + G.2.2.2 → gk_lv (a :: A') G.2.2.2 s := by
      intro s hs hne
      rcases hs with h | h
      · exact Or.inl h
      · exact Or.inr (by omega)
    refine ⟨B.1, B.2.1, ?_, by rw [gk_sun (by omega)]; exact B.2.2.2.1, B.2.2.2.2.1, xr_lay B.2.2.2.2.2.1 B.2.2.1 hlv, ?_⟩
    · intro s h16 hs
      by_cases z : s = 8 + G.2.2.2
      · subst z
        rw [gk_sus]
        exact Nat.le_of_lt (by show 1 < 48; decide)
      · rw [gk_sun z]
        exact B.2.2.1 s h16 (hlv s hs z)
    · intro j hj
      have hj2 : j < G.2.2.2 + 1 := hj
      show upd gs G.2.2.2 0 j = xr_g (upd G.1 G.2.2.2 0 j) (upd G.2.1 G.2.2.2 0 j)
      by_cases z : j = G.2.2.2
      · subst z
        rw [pk_us, pk_us, pk_us]
        rfl
      · rw [pk_un z, pk_un z, pk_un z]
        exact B.2.2.2.2.2.2 j (by omega)
  exact xs_fin (V := gk_bd V (nI t) (F.2.1 i) M.2.2.1 M.2.2.2) B2 hp
theorem xg_rs3 (hw : gw_S w) (hq : xq_S w q) (I : gk_I w M S (a :: A') V F G nc sp) (hR : xr_R w q M S (a :: A') V F G N sp u) (hSa : S a = f :: L) (hb : M.1 = false) (hh : M.2.1 = 0) (hst : f.2.1 = 2) (hk : gw_K w f.1 = 23) (hs : f.2.2.2.2.1 ≠ 4)
    (hp : ∀ u', xr_R w q (false, 1, 1, (-3 : Int32).toInt64) (gk_su S a L) (a :: A') V F G N sp u' → post u') : wpX_goOn post u (nI (48 * a + L.length)) := by
  obtain ⟨en, vs, vn, ft, fs, fc, ke, ks, kn, cn, ac, gs, rfl, hP⟩ := hR
  have B := xo_mk hw I hSa hP
  have fo := xs_fo I hSa
  obtain ⟨hen, hv⟩ := hP.1 hb
  obtain ⟨i1, i2, eK, eS, eT, eC⟩ := xs_in hw B fo.1 hk hst
  have hkp := xg_kp fo B hst (by rw [hk]; decide) (by rw [hk]; decide)
  refine ⟨i1, i2, nm_r eK ⟨i1, nm_r eS (br_f (by decide) (br_f (by decide) (br_f (by decide) (br_f (by decide) (br_t (hen.trans hh) (br_f (by decide) (br_f (by decide) ⟨i1, nm_r hkp.1 ⟨i1, nm_r hkp.2 ?_⟩⟩)))))))⟩⟩
  refine br_f (by decide) (br_t (by decide) ⟨i1, nm_e ⟨i1, br_f (by rw [hkp.1]; exact hs) ?_⟩⟩)
  exact xs_thr B hp
theorem xg_rsE (hw : gw_S w) (hq : xq_S w q) (I : gk_I w M S (a :: A') V F G nc sp) (hR : xr_R w q M S (a :: A') V F G N sp u) (hSa : S a = f :: L) (hb : M.1 = false) (hh : M.2.1 = 0) (hst : f.2.1 = 2) (hk : gw_K w f.1 = 23) (hs : f.2.2.2.2.1 = 4) {g : Nat} (hx : f.2.2.2.2.2 = lN g) (hg : g < G.2.2.2) (h3 : G.1 g = 3)
    (hp : ∀ u', xr_R w q (false, 0, 0, 0) (gk_su S a L) (a :: A') V F G N sp u' → post u') : wpX_goOn post u (nI (48 * a + L.length)) := by
  obtain ⟨en, vs, vn, ft, fs, fc, ke, ks, kn, cn, ac, gs, rfl, hP⟩ := hR
  have B := xo_mk hw I hSa hP
  have fo := xs_fo I hSa
  obtain ⟨hen, hv⟩ := hP.1 hb
  obtain ⟨i1, i2, eK, eS, eT, eC⟩ := xs_in hw B fo.1 hk hst
  have hkp := xg_kp fo B hst (by rw [hk]; decide) (by rw [hk]; decide)
  have hvc := xg_vc I
  have egc : (nI g).toNatClampNeg = g := nI_clamp (by omega)
  have ig : vp_in (nI g) 8 := vp_in_nI (by omega) (by decide)
  have ex : (kn (nI (48 * a + L.length)).toNatClampNeg).toInt32 = nI g := by rw [hkp.2, hx, lN_i]
  have eg : gs (nI g).toNatClampNeg = xr_g (G.1 g) (G.2.1 g) := by rw [egc]; exact B.2.2.2.2.2.2 g hg
  refine ⟨i1, i2, nm_r eK ⟨i1, nm_r eS (br_f (by decide) (br_f (by decide) (br_f (by decide) (br_f (by decide) (br_t (hen.trans hh) (br_f (by decide) (br_f (by decide) ⟨i1, nm_r hkp.1 ⟨i1, nm_r hkp.2 ?_⟩⟩)))))))⟩⟩
  refine br_f (by decide) (br_t (by decide) ⟨i1, nm_r ex ⟨i1, br_t (by rw [hkp.1]; exact hs) ⟨ig, ?_⟩⟩⟩)
  refine br_t (by rw [eg]; exact xr_g3.mpr h3) ?_
  exact xs_fin B hp
theorem xg_rsW (hw : gw_S w) (hq : xq_S w q) (I : gk_I w M S (a :: A') V F G nc sp) (hR : xr_R w q M S (a :: A') V F G N sp u) (hSa : S a = f :: L) (hb : M.1 = false) (hh : M.2.1 = 0) (hst : f.2.1 = 2) (hk : gw_K w f.1 = 23) (hs : f.2.2.2.2.1 = 4) {g : Nat} (hx : f.2.2.2.2.2 = lN g) (hg : g < G.2.2.2) (h2 : G.1 g = 2)
    (hp : ∀ u', xr_R w q (false, 1, 1, (-4 : Int32).toInt64) (gk_su S a L) (a :: A') V F G N sp u' → post u') : wpX_goOn post u (nI (48 * a + L.length)) := by
  obtain ⟨en, vs, vn, ft, fs, fc, ke, ks, kn, cn, ac, gs, rfl, hP⟩ := hR
  have B := xo_mk hw I hSa hP
  have fo := xs_fo I hSa
  obtain ⟨hen, hv⟩ := hP.1 hb
  obtain ⟨i1, i2, eK, eS, eT, eC⟩ := xs_in hw B fo.1 hk hst
  have hkp := xg_kp fo B hst (by rw [hk]; decide) (by rw [hk]; decide)
  have hvc := xg_vc I
  have egc : (nI g).toNatClampNeg = g := nI_clamp (by omega)
  have ig : vp_in (nI g) 8 := vp_in_nI (by omega) (by decide)
  have ex : (kn (nI (48 * a + L.length)).toNatClampNeg).toInt32 = nI g := by rw [hkp.2, hx, lN_i]
  have eg : gs (nI g).toNatClampNeg = xr_g (G.1 g) (G.2.1 g) := by rw [egc]; exact B.2.2.2.2.2.2 g hg
  refine ⟨i1, i2, nm_r eK ⟨i1, nm_r eS (br_f (by decide) (br_f (by decide) (br_f (by decide) (br_f (by decide) (br_t (hen.trans hh) (br_f (by decide) (br_f (by decide) ⟨i1, nm_r hkp.1 ⟨i1, nm_r hkp.2 ?_⟩⟩)))))))⟩⟩
  refine br_f (by decide) (br_t (by decide) ⟨i1, nm_r ex ⟨i1, br_t (by rw [hkp.1]; exact hs) ⟨ig, ?_⟩⟩⟩)
  refine br_f (by rw [eg, xr_g3, h2]; decide) ?_
  exact xg_atw B hg hvc.2.2 h2 hp
theorem xg_rsF (hw : gw_S w) (hq : xq_S w q) (I : gk_I w M S (a :: A') V F G nc sp) (hR : xr_R w q M S (a :: A') V F G N sp u) (hSa : S a = f :: L) (hb : M.1 = false) (hh : M.2.1 = 0) (hst : f.2.1 = 2) (hk : gw_K w f.1 = 23) (hs : f.2.2.2.2.1 = 4) {g : Nat} (hx : f.2.2.2.2.2 = lN g) (hg : g < G.2.2.2) (h2 : G.1 g = 0 ∨ G.1 g = 1) (hd : ¬ A'.length + 1 < 8)
    (hp : ∀ u', xr_R w q (false, 1, 1, (-5 : Int32).toInt64) (gk_su S a L) (a :: A') V F G N sp u' → post u') : wpX_goOn post u (nI (48 * a + L.length)) := by
  obtain ⟨en, vs, vn, ft, fs, fc, ke, ks, kn, cn, ac, gs, rfl, hP⟩ := hR
  have B := xo_mk hw I hSa hP
  have fo := xs_fo I hSa
  obtain ⟨hen, hv⟩ := hP.1 hb
  obtain ⟨i1, i2, eK, eS, eT, eC⟩ := xs_in hw B fo.1 hk hst
  have hkp := xg_kp fo B hst (by rw [hk]; decide) (by rw [hk]; decide)
  have hvc := xg_vc I
  have egc : (nI g).toNatClampNeg = g := nI_clamp (by omega)
  have ig : vp_in (nI g) 8 := vp_in_nI (by omega) (by decide)
  have ex : (kn (nI (48 * a + L.length)).toNatClampNeg).toInt32 = nI g := by rw [hkp.2, hx, lN_i]
  have eg : gs (nI g).toNatClampNeg = xr_g (G.1 g) (G.2.1 g) := by rw [egc]; exact B.2.2.2.2.2.2 g hg
  refine ⟨i1, i2, nm_r eK ⟨i1, nm_r eS (br_f (by decide) (br_f (by decide) (br_f (by decide) (br_f (by decide) (br_t (hen.trans hh) (br_f (by decide) (br_f (by decide) ⟨i1, nm_r hkp.1 ⟨i1, nm_r hkp.2 ?_⟩⟩)))))))⟩⟩
  refine br_f (by decide) (br_t (by decide) ⟨i1, nm_r ex ⟨i1, br_t (by rw [hkp.1]; exact hs) ⟨ig, ?_⟩⟩⟩)
  refine br_f (by rw [eg, xr_g3]; rcases h2 with z | z <;> (rw [z]; decide)) ?_
  exact xg_full I B hg (by rcases h2 with z | z <;> (rw [z]; decide)) hd hp
theorem xg_rs (hw : gw_S w) (hq : xq_S w q) (I : gk_I w M S (a :: A') V F G nc sp) (hR : xr_R w q M S (a :: A') V F G N sp u) (hSa : S a = f :: L) (hb : M.1 = false) (hh : M.2.1 = 0) (hst : f.2.1 = 2) (hk : gw_K w f.1 = 23) (hs : f.2.2.2.2.1 = 4) {g : Nat} (hx : f.2.2.2.2.2 = lN g) (hg : g < G.2.2.2) (h2 : G.1 g = 0 ∨ G.1 g = 1) (hc : G.2.1 g = 0) (hd : A'.length + 1 < 8) (hm : M'.2 = M.2)
    (hp : ∀ u', xr_R w q M' (gk_su S a ((f.1, 3, f.2.2) :: L)) ((8 + g) :: a :: A') V F (upd G.1 g 2, G.2.1, G.2.2.1, G.2.2.2) N sp u' → post u') : wpX_goOn post u (nI (48 * a + L.length)) := by
  obtain ⟨en, vs, vn, ft, fs, fc, ke, ks, kn, cn, ac, gs, rfl, hP⟩ := hR
  have B := xo_mk hw I hSa hP
  have fo := xs_fo I hSa
  obtain ⟨hen, hv⟩ := hP.1 hb
  obtain ⟨i1, i2, eK, eS, eT, eC⟩ := xs_in hw B fo.1 hk hst
  have hkp := xg_kp fo B hst (by rw [hk]; decide) (by rw [hk]; decide)
  have hvc := xg_vc I
  have egc : (nI g).toNatClampNeg = g := nI_clamp (by omega)
  have ig : vp_in (nI g) 8 := vp_in_nI (by omega) (by decide)
  have ex : (kn (nI (48 * a + L.length)).toNatClampNeg).toInt32 = nI g := by rw [hkp.2, hx, lN_i]
  have eg : gs (nI g).toNatClampNeg = xr_g (G.1 g) (G.2.1 g) := by rw [egc]; exact B.2.2.2.2.2.2 g hg
  refine ⟨i1, i2, nm_r eK ⟨i1, nm_r eS (br_f (by decide) (br_f (by decide) (br_f (by decide) (br_f (by decide) (br_t (hen.trans hh) (br_f (by decide) (br_f (by decide) ⟨i1, nm_r hkp.1 ⟨i1, nm_r hkp.2 ?_⟩⟩)))))))⟩⟩
  refine br_f (by decide) (br_t (by decide) ⟨i1, nm_r ex ⟨i1, br_t (by rw [hkp.1]; exact hs) ⟨ig, ?_⟩⟩⟩)
  refine br_f (by rw [eg, xr_g3]; rcases h2 with z | z <;> (rw [z]; decide)) ?_
  exact xg_ent hw I B hg (by rcases h2 with z | z <;> (rw [z]; decide)) hd (fun _ _ => rfl) (Or.inr ⟨rfl, hc⟩) (fun _ => ⟨by rw [hm, hh]; rfl, fun z => by rw [hm] at z ⊢; exact hv z⟩) hp
end
end
section
abbrev gk_nu (s : Int32) : Prop := s = 1 ∨ s = 2
def gk_same (s : Int32) (x : Int64) (s' : Int32) (x' : Int64) : Int64 := if x = x' ∧ ((gk_nu s ∧ gk_nu s') ∨ s = s') then 1 else 0
def gk_res (k : Int32) (x y : Int64) : Int64 := if k = 7 then x + y else if k = 8 then x - y else if k = 9 then x * y else x / y
def gk_ov (k : Int32) (x y : Int64) : Prop :=
  (k = 7 ∧ ¬ ca_in (x.toInt + y.toInt)) ∨ (k = 8 ∧ ¬ ca_in (x.toInt - y.toInt)) ∨ (k = 9 ∧ ¬ ca_in (x.toInt * y.toInt)) ∨ (k = 10 ∧ y = -1 ∧ x < 0 ∧ -x = x)
theorem ov_7 {x y : Int64} : gk_ov 7 x y ↔ ¬ ca_in (x.toInt + y.toInt) := by
  constructor
  · intro h
    rcases h with h | h | h | h
    · exact h.2
    · exact absurd h.1 (by decide)
    · exact absurd h.1 (by decide)
    · exact absurd h.1 (by decide)
  · exact fun h => Or.inl ⟨rfl, h⟩
theorem ov_8 {x y : Int64} : gk_ov 8 x y ↔ ¬ ca_in (x.toInt - y.toInt) := by
  constructor
  · intro h
    rcases h with h | h | h | h
    · exact absurd h.1 (by decide)
    · exact h.2
    · exact absurd h.1 (by decide)
    · exact absurd h.1 (by decide)
  · exact fun h => Or.inr (Or.inl ⟨rfl, h⟩)
theorem ov_9 {x y : Int64} : gk_ov 9 x y ↔ ¬ ca_in (x.toInt * y.toInt) := by
  constructor
  · intro h
    rcases h with h | h | h | h
    · exact absurd h.1 (by decide)
    · exact absurd h.1 (by decide)
    · exact h.2
    · exact absurd h.1 (by decide)
  · exact fun h => Or.inr (Or.inr (Or.inl ⟨rfl, h⟩))
theorem ov_10 {x y : Int64} : gk_ov 10 x y ↔ (y = -1 ∧ x < 0 ∧ -x = x) := by
  constructor
  · intro h
    rcases h with h | h | h | h
    · exact absurd h.1 (by decide)
    · exact absurd h.1 (by decide)
    · exact absurd h.1 (by decide)
    · exact h.2
  · exact fun h => Or.inr (Or.inr (Or.inr ⟨rfl, h⟩))
def gk_op4 (k : Int32) : Prop := k = 7 ∨ k = 8 ∨ k = 9 ∨ k = 10
section
variable {f_tokenCount f_scriptSize f_saidPlace f_activationCount f_variableCount f_functionCount f_generatorCount f_ending f_valueSort : Int32} {f_valueNumber : Int64} {f_noteCount f_stepCount f_latestRun : Int32} {a_tokenKinds a_tokenOperands a_kinds a_operands a_parents a_behind a_ownFns a_meanings a_generatorFns a_frameTokens a_frameStages a_frameScopes a_keptEndings a_keptSorts : Nat → Int32} {a_keptNumbers : Nat → Int64} {a_frameCounts a_activeSlots a_variableBinders a_variableOuters a_variableSorts : Nat → Int32} {a_variableNumbers : Nat → Int64} {a_functionTokens a_functionScopes a_generatorStates a_noteSorts : Nat → Int32} {a_noteNumbers : Nat → Int64}
theorem xm_wrap {post : Int64 → Prop} {k : Int32} {x y : Int64} (hk : gk_op4 k) (h0 : k = 10 → y ≠ 0) (h : post (gk_res k x y)) : wpX_wrappedResult post (f_tokenCount, f_scriptSize, f_saidPlace, f_activationCount, f_variableCount, f_functionCount, f_generatorCount, f_ending, f_valueSort, f_valueNumber, f_noteCount, f_stepCount, f_latestRun, a_tokenKinds, a_tokenOperands, a_kinds, a_operands, a_parents, a_behind, a_ownFns, a_meanings, a_generatorFns, a_frameTokens, a_frameStages, a_frameScopes, a_keptEndings, a_keptSorts, a_keptNumbers, a_frameCounts, a_activeSlots, a_variableBinders, a_variableOuters, a_variableSorts, a_variableNumbers, a_functionTokens, a_functionScopes, a_generatorStates, a_noteSorts, a_noteNumbers) k x y := by
  rcases hk with rfl | rfl | rfl | rfl
  · exact br_f (by decide) (br_f (by decide) (br_t rfl h))
  · exact br_f (by decide) (br_f (by decide) (br_f (by decide) (br_t rfl h)))
  · exact br_f (by decide) (br_f (by decide) (br_f (by decide) (br_f (by decide) (br_t rfl h))))
  · exact br_f (by decide) (br_t (by decide) (br_f (h0 rfl) ⟨h0 rfl, h⟩))
theorem xm_hw {post : Int32 → Prop} {k : Int32} {x y : Int64} (hk : gk_op4 k) (h1 : gk_ov k x y → post 1) (h0 : ¬ gk_ov k x y → post 0) : wpX_hasWrapped post (f_tokenCount, f_scriptSize, f_saidPlace, f_activationCount, f_variableCount, f_functionCount, f_generatorCount, f_ending, f_valueSort, f_valueNumber, f_noteCount, f_stepCount, f_latestRun, a_tokenKinds, a_tokenOperands, a_kinds, a_operands, a_parents, a_behind, a_ownFns, a_meanings, a_generatorFns, a_frameTokens, a_frameStages, a_frameScopes, a_keptEndings, a_keptSorts, a_keptNumbers, a_frameCounts, a_activeSlots, a_variableBinders, a_variableOuters, a_variableSorts, a_variableNumbers, a_functionTokens, a_functionScopes, a_generatorStates, a_noteSorts, a_noteNumbers) k x y (gk_res k x y) := by
  rcases hk with rfl | rfl | rfl | rfl
  · refine br_f (by decide) (br_f (by decide) (br_t rfl (br_c (fun z => ?_) (fun z => ?_))))
    · refine h0 (fun o => ?_)
      have := (ca_addX x y).mpr (ov_7.mp o)
      exact Int64.not_lt.mpr z this
    · exact h1 (ov_7.mpr ((ca_addX x y).mp (Int64.not_le.mp z)))
  · refine br_f (by decide) (br_f (by decide) (br_f (by decide) (br_t rfl (br_c (fun z => ?_) (fun z => ?_)))))
    · refine h0 (fun o => ?_)
      have := (ca_subX x y).mpr (ov_8.mp o)
      exact Int64.not_lt.mpr z this
    · exact h1 (ov_8.mpr ((ca_subX x y).mp (Int64.not_le.mp z)))
  · refine br_f (by decide) (br_f (by decide) (br_f (by decide) (br_f (by decide) (br_t rfl (br_c (fun z => ?_) (fun z => br_c (fun z1 => ?_) (fun z1 => ⟨z, br_c (fun e => ?_) (fun e => ?_)⟩)))))))
    · subst z
      refine br_f (by decide) (h0 (fun o => ?_))
      have o2 := ov_9.mp o
      rw [ca_0] at o2
      apply o2
      unfold ca_in
      omega
    · subst z1
      have key := ca_mulXm x
      refine br_t rfl (br_c (fun c => ?_) (fun c => br_c (fun d => ?_) (fun d => ?_)))
      · refine h0 (fun o => ?_)
        exact Int64.not_lt.mpr c (key.mpr (ov_9.mp o)).1
      · refine h0 (fun o => ?_)
        exact Int64.not_lt.mpr d (key.mpr (ov_9.mp o)).2
      · exact h1 (ov_9.mpr (key.mp ⟨Int64.not_le.mp c, Int64.not_le.mp d⟩))
    · refine h0 (fun o => ?_)
      exact (ca_mulX x y z z1).mpr (ov_9.mp o) e
    · exact h1 (ov_9.mpr ((ca_mulX x y z z1).mp e))
  · refine br_f (by decide) (br_t (by decide) (br_c (fun z => br_c (fun c => ?_) (fun c => br_c (fun d => ?_) (fun d => ?_))) (fun z => ?_)))
    · refine h0 (fun o => ?_)
      exact Int64.not_lt.mpr c (ov_10.mp o).2.1
    · refine h0 (fun o => ?_)
      subst z
      have key := (ca_divm x).mpr (ov_10.mp o).2
      exact Int64.not_lt.mpr d key.2
    · subst z
      exact h1 (ov_10.mpr ⟨rfl, (ca_divm x).mp ⟨Int64.not_le.mp c, Int64.not_le.mp d⟩⟩)
    · exact h0 (fun o => z (ov_10.mp o).1)
end
section
variable {w : gw_T} {q : xq_T} {M M' : gm_T} {S : Nat → List gf_T} {a : Nat} {A' : List Nat} {V : gv_T} {F : gp_T} {G : gg_T} {N : gn_T} {nc sp : Nat} {u : SX} {f : gf_T} {L : List gf_T} {post : SX → Prop}
variable {e0 s0 k1 k2 : Int32} {n0 k3 : Int64}
theorem xg_same (hw : gw_S w) (hq : xq_S w q) (I : gk_I w M S (a :: A') V F G nc sp) (hR : xr_R w q M S (a :: A') V F G N sp u) (hSa : S a = f :: L) (hb : M.1 = false) (hh : M.2.1 = 0) (hst : f.2.1 = 2) (hk : gw_K w f.1 = 12)
    (hp : ∀ u', xr_R w q (false, 0, 1, gk_same f.2.2.2.2.1 f.2.2.2.2.2 M.2.2.1 M.2.2.2) (gk_su S a L) (a :: A') V F G N sp u' → post u') : wpX_goOn post u (nI (48 * a + L.length)) := by
  obtain ⟨en, vs, vn, ft, fs, fc, ke, ks, kn, cn, ac, gs, rfl, hP⟩ := hR
  have B := xo_mk hw I hSa hP
  have fo := xs_fo I hSa
  obtain ⟨hen, hv⟩ := hP.1 hb
  obtain ⟨i1, i2, eK, eS, eT, eC⟩ := xs_in hw B fo.1 hk hst
  have hkp := xg_kp fo B hst (by rw [hk]; decide) (by rw [hk]; decide)
  obtain ⟨rfl, rfl⟩ := hv (Or.inl hh)
  refine ⟨i1, i2, nm_r eK ⟨i1, nm_r eS (br_f (by decide) (br_f (by decide) (br_f (by decide) (br_f (by decide) (br_t (hen.trans hh) (br_f (by decide) (br_f (by decide) ⟨i1, nm_r hkp.1 ⟨i1, nm_r hkp.2 ?_⟩⟩)))))))⟩⟩
  refine br_f (by decide) (br_f (by decide) (br_t (by decide) ?_))
  unfold gk_same at hp
  unfold wpX_compare
  refine xm_num ?_
  by_cases n1 : f.2.2.2.2.1 = 1 ∨ f.2.2.2.2.1 = 2
  · rw [if_pos n1]
    refine br_f (by decide) ?_
    refine xm_num ?_
    by_cases n2 : M.2.2.1 = 1 ∨ M.2.2.1 = 2
    · rw [if_pos n2]
      refine br_f (by decide) (br_f (by decide) (br_c (fun z => br_f (by decide) ?_) (fun z => br_t (by decide) ?_)))
      · rw [if_pos ⟨z, Or.inl ⟨n1, n2⟩⟩] at hp
        exact xs_fin B hp
      · rw [if_neg (fun y => z y.1)] at hp
        exact xs_fin B hp
    · rw [if_neg n2]
      refine br_t (by decide) (br_t (by decide) (br_c (fun y => ?_) (fun y => br_t (by decide) ?_)))
      · exact absurd (by rw [← y]; exact n1) n2
      · rw [if_neg (fun z => by rcases z.2 with c | c; exact n2 c.2; exact y c)] at hp
        exact xs_fin B hp
  · rw [if_neg n1]
    refine br_t (by decide) (br_t (by decide) (br_c (fun y => br_c (fun z => br_f (by decide) ?_) (fun z => br_t (by decide) ?_)) (fun y => br_t (by decide) ?_)))
    · rw [if_pos ⟨z, Or.inr y⟩] at hp
      exact xs_fin B hp
    · rw [if_neg (fun c => z c.1)] at hp
      exact xs_fin B hp
    · rw [if_neg (fun z => by rcases z.2 with c | c; exact n1 c.1; exact y c)] at hp
      exact xs_fin B hp
theorem xg_ca3 (hw : gw_S w) (hq : xq_S w q) (I : gk_I w M S (a :: A') V F G nc sp) (hR : xr_R w q M S (a :: A') V F G N sp u) (hSa : S a = f :: L) (hb : M.1 = false) (hh : M.2.1 = 0) (hst : f.2.1 = 2) {kd : Int32} (hk : gw_K w f.1 = kd) (hd : kd = 7 ∨ kd = 8 ∨ kd = 9 ∨ kd = 10 ∨ kd = 11) (hn : ¬ (gk_nu f.2.2.2.2.1 ∧ gk_nu M.2.2.1))
    (hp : ∀ u', xr_R w q (false, 1, 1, (-3 : Int32).toInt64) (gk_su S a L) (a :: A') V F G N sp u' → post u') : wpX_goOn post u (nI (48 * a + L.length)) := by
  obtain ⟨en, vs, vn, ft, fs, fc, ke, ks, kn, cn, ac, gs, rfl, hP⟩ := hR
  have B := xo_mk hw I hSa hP
  have fo := xs_fo I hSa
  obtain ⟨hen, hv⟩ := hP.1 hb
  obtain ⟨i1, i2, eK, eS, eT, eC⟩ := xs_in hw B fo.1 hk hst
  have h14 : kd ≠ 14 := by rcases hd with rfl | rfl | rfl | rfl | rfl <;> decide
  have h21 : kd ≠ 21 := by rcases hd with rfl | rfl | rfl | rfl | rfl <;> decide
  have h20 : kd ≠ 20 := by rcases hd with rfl | rfl | rfl | rfl | rfl <;> decide
  have h6 : kd ≠ 6 := by rcases hd with rfl | rfl | rfl | rfl | rfl <;> decide
  have h23 : kd ≠ 23 := by rcases hd with rfl | rfl | rfl | rfl | rfl <;> decide
  have h12 : kd ≠ 12 := by rcases hd with rfl | rfl | rfl | rfl | rfl <;> decide
  have hkp := xg_kp fo B hst (by rw [hk]; exact h14) (by rw [hk]; exact h21)
  obtain ⟨rfl, rfl⟩ := hv (Or.inl hh)
  refine ⟨i1, i2, nm_r eK ⟨i1, nm_r eS (br_f h14 (br_f h21 (br_f h20 (br_f h20 (br_t (hen.trans hh) (br_f (by decide) (br_f (by decide) ⟨i1, nm_r hkp.1 ⟨i1, nm_r hkp.2 (br_f h6 (br_f h23 (br_f h12 ?_)))⟩⟩)))))))⟩⟩
  unfold wpX_calculate
  refine xm_num ?_
  by_cases n1 : f.2.2.2.2.1 = 1 ∨ f.2.2.2.2.1 = 2
  · rw [if_pos n1]
    refine br_f (by decide) (xm_num ?_)
    rw [if_neg (fun z => hn ⟨n1, z⟩)]
    refine br_t (by decide) ?_
    exact xs_thr B hp
  · rw [if_neg n1]
    refine br_t (by decide) ?_
    exact xs_thr B hp
theorem xg_less (hw : gw_S w) (hq : xq_S w q) (I : gk_I w M S (a :: A') V F G nc sp) (hR : xr_R w q M S (a :: A') V F G N sp u) (hSa : S a = f :: L) (hb : M.1 = false) (hh : M.2.1 = 0) (hst : f.2.1 = 2) (hk : gw_K w f.1 = 11) (hn : gk_nu f.2.2.2.2.1 ∧ gk_nu M.2.2.1)
    (hp : ∀ u', xr_R w q (false, 0, 1, (if f.2.2.2.2.2 < M.2.2.2 then 1 else 0)) (gk_su S a L) (a :: A') V F G N sp u' → post u') : wpX_goOn post u (nI (48 * a + L.length)) := by
  obtain ⟨en, vs, vn, ft, fs, fc, ke, ks, kn, cn, ac, gs, rfl, hP⟩ := hR
  have B := xo_mk hw I hSa hP
  have fo := xs_fo I hSa
  obtain ⟨hen, hv⟩ := hP.1 hb
  obtain ⟨i1, i2, eK, eS, eT, eC⟩ := xs_in hw B fo.1 hk hst
  have kd : (11 : Int32) = 11 := rfl
  have hkp := xg_kp fo B hst (by rw [hk]; decide) (by rw [hk]; decide)
  obtain ⟨rfl, rfl⟩ := hv (Or.inl hh)
  refine ⟨i1, i2, nm_r eK ⟨i1, nm_r eS (br_f (by decide) (br_f (by decide) (br_f (by decide) (br_f (by decide) (br_t (hen.trans hh) (br_f (by decide) (br_f (by decide) ⟨i1, nm_r hkp.1 ⟨i1, nm_r hkp.2 ?_⟩⟩)))))))⟩⟩
  refine br_f (by decide) (br_f (by decide) (br_f (by decide) ?_))
  unfold wpX_calculate
  refine xm_num ?_
  rw [if_pos hn.1]
  refine br_f (by decide) (xm_num ?_)
  rw [if_pos hn.2]
  refine br_f (by decide) ?_
  refine br_t (by decide) (br_c (fun z => ?_) (fun z => ?_))
  · rw [if_neg (Int64.not_lt.mpr z)] at hp
    exact xs_fin B hp
  · rw [if_pos (Int64.not_le.mp z)] at hp
    exact xs_fin B hp
theorem xg_div0 (hw : gw_S w) (hq : xq_S w q) (I : gk_I w M S (a :: A') V F G nc sp) (hR : xr_R w q M S (a :: A') V F G N sp u) (hSa : S a = f :: L) (hb : M.1 = false) (hh : M.2.1 = 0) (hst : f.2.1 = 2) (hk : gw_K w f.1 = 10) (hn : gk_nu f.2.2.2.2.1 ∧ gk_nu M.2.2.1) (h0 : M.2.2.2 = 0)
    (hp : ∀ u', xr_R w q (false, 1, 1, (-1 : Int32).toInt64) (gk_su S a L) (a :: A') V F G N sp u' → post u') : wpX_goOn post u (nI (48 * a + L.length)) := by
  obtain ⟨en, vs, vn, ft, fs, fc, ke, ks, kn, cn, ac, gs, rfl, hP⟩ := hR
  have B := xo_mk hw I hSa hP
  have fo := xs_fo I hSa
  obtain ⟨hen, hv⟩ := hP.1 hb
  obtain ⟨i1, i2, eK, eS, eT, eC⟩ := xs_in hw B fo.1 hk hst
  have hkp := xg_kp fo B hst (by rw [hk]; decide) (by rw [hk]; decide)
  obtain ⟨rfl, rfl⟩ := hv (Or.inl hh)
  refine ⟨i1, i2, nm_r eK ⟨i1, nm_r eS (br_f (by decide) (br_f (by decide) (br_f (by decide) (br_f (by decide) (br_t (hen.trans hh) (br_f (by decide) (br_f (by decide) ⟨i1, nm_r hkp.1 ⟨i1, nm_r hkp.2 ?_⟩⟩)))))))⟩⟩
  refine br_f (by decide) (br_f (by decide) (br_f (by decide) ?_))
  unfold wpX_calculate
  refine xm_num ?_
  rw [if_pos hn.1]
  refine br_f (by decide) (xm_num ?_)
  rw [if_pos hn.2]
  refine br_f (by decide) ?_
  refine br_f (by decide) (br_t (by decide) (br_t h0 ?_))
  exact xs_thr B hp
def gk_rs (s s' : Int32) (r : Int64) : Int32 := if s = 1 ∧ s' = 1 ∧ r = r.toInt32.toInt64 then 1 else 2
theorem xg_calc (hw : gw_S w) (hq : xq_S w q) (I : gk_I w M S (a :: A') V F G nc sp) (hR : xr_R w q M S (a :: A') V F G N sp u) (hSa : S a = f :: L) (hb : M.1 = false) (hh : M.2.1 = 0) (hst : f.2.1 = 2) {kd : Int32} (hk : gw_K w f.1 = kd) (hop : gk_op4 kd) (h10 : kd = 10 → M.2.2.2 ≠ 0) (hn : gk_nu f.2.2.2.2.1 ∧ gk_nu M.2.2.1)
    (hp1 : gk_ov kd f.2.2.2.2.2 M.2.2.2 → ∀ u', xr_R w q (false, 1, 1, (-2 : Int32).toInt64) (gk_su S a L) (a :: A') V F G N sp u' → post u')
    (hp0 : ¬ gk_ov kd f.2.2.2.2.2 M.2.2.2 → ∀ u', xr_R w q (false, 0, gk_rs f.2.2.2.2.1 M.2.2.1 (gk_res kd f.2.2.2.2.2 M.2.2.2), gk_res kd f.2.2.2.2.2 M.2.2.2) (gk_su S a L) (a :: A') V F G N sp u' → post u') : wpX_goOn post u (nI (48 * a + L.length)) := by
  obtain ⟨en, vs, vn, ft, fs, fc, ke, ks, kn, cn, ac, gs, rfl, hP⟩ := hR
  have B := xo_mk hw I hSa hP
  have fo := xs_fo I hSa
  obtain ⟨hen, hv⟩ := hP.1 hb
  obtain ⟨i1, i2, eK, eS, eT, eC⟩ := xs_in hw B fo.1 hk hst
  have hd : kd = 7 ∨ kd = 8 ∨ kd = 9 ∨ kd = 10 ∨ kd = 11 := by
    rcases hop with h | h | h | h
    · exact Or.inl h
    · exact Or.inr (Or.inl h)
    · exact Or.inr (Or.inr (Or.inl h))
    · exact Or.inr (Or.inr (Or.inr (Or.inl h)))
  have h11 : kd ≠ 11 := by rcases hop with rfl | rfl | rfl | rfl <;> decide
  have h14 : kd ≠ 14 := by rcases hd with rfl | rfl | rfl | rfl | rfl <;> decide
  have h21 : kd ≠ 21 := by rcases hd with rfl | rfl | rfl | rfl | rfl <;> decide
  have h20 : kd ≠ 20 := by rcases hd with rfl | rfl | rfl | rfl | rfl <;> decide
  have h6 : kd ≠ 6 := by rcases hd with rfl | rfl | rfl | rfl | rfl <;> decide
  have h23 : kd ≠ 23 := by rcases hd with rfl | rfl | rfl | rfl | rfl <;> decide
  have h12 : kd ≠ 12 := by rcases hd with rfl | rfl | rfl | rfl | rfl <;> decide
  have hkp := xg_kp fo B hst (by rw [hk]; exact h14) (by rw [hk]; exact h21)
  obtain ⟨rfl, rfl⟩ := hv (Or.inl hh)
  refine ⟨i1, i2, nm_r eK ⟨i1, nm_r eS (br_f h14 (br_f h21 (br_f h20 (br_f h20 (br_t (hen.trans hh) (br_f (by decide) (br_f (by decide) ⟨i1, nm_r hkp.1 ⟨i1, nm_r hkp.2 (br_f h6 (br_f h23 (br_f h12 ?_)))⟩⟩)))))))⟩⟩
  unfold wpX_calculate
  refine xm_num ?_
  rw [if_pos hn.1]
  refine br_f (by decide) (xm_num ?_)
  rw [if_pos hn.2]
  refine br_f (by decide) ?_
  have body : wX_calculate_81 post kd f.2.2.2.2.1 f.2.2.2.2.2 M.2.2.2 q.1 q.2.1 q.2.2.1 (nI (a :: A').length) (nI V.2.2.2.2) (nI F.2.2) (nI G.2.2.2) en M.2.2.1 M.2.2.2 (nI N.2.2) (nI sp) q.2.2.2.1 q.2.2.2.2.1 q.2.2.2.2.2.1 (gw_K w) (gw_v w) q.2.2.2.2.2.2.1 q.2.2.2.2.2.2.2.1 q.2.2.2.2.2.2.2.2 (gw_mn w) (gw_gn w) ft fs fc ke ks kn cn ac V.1 V.2.1 V.2.2.1 V.2.2.2.1 F.1 F.2.1 gs N.1 N.2.1 := by
    refine xm_wrap hop h10 ?_
    generalize hr : gk_res kd f.2.2.2.2.2 M.2.2.2 = r at hp0 ⊢
    refine br_c (fun y1 => br_c (fun y2 => br_c (fun y3 => ?_) (fun y3 => ?_)) (fun y2 => ?_)) (fun y1 => ?_)
    · unfold gk_rs at hp0
      rw [if_pos ⟨y1, y2, y3⟩] at hp0
      unfold wX_calculate_119
      rw [← hr]
      refine xm_hw hop (fun o => br_f (by decide) ?_) (fun o => br_t rfl (br_f (by decide) ?_))
      · exact xs_thr B (hp1 o)
      · rw [hr]
        exact xs_fin B (hp0 o)
    · unfold gk_rs at hp0
      rw [if_neg (fun c => y3 c.2.2)] at hp0
      unfold wX_calculate_118 wX_calculate_119
      rw [← hr]
      refine xm_hw hop (fun o => br_f (by decide) ?_) (fun o => br_t rfl (br_t rfl ?_))
      · exact xs_thr B (hp1 o)
      · rw [hr]
        exact xs_fin B (hp0 o)
    · unfold gk_rs at hp0
      rw [if_neg (fun c => y2 c.2.1)] at hp0
      unfold wX_calculate_118 wX_calculate_119
      rw [← hr]
      refine xm_hw hop (fun o => br_f (by decide) ?_) (fun o => br_t rfl (br_t rfl ?_))
      · exact xs_thr B (hp1 o)
      · rw [hr]
        exact xs_fin B (hp0 o)
    · unfold gk_rs at hp0
      rw [if_neg (fun c => y1 c.1)] at hp0
      unfold wX_calculate_118 wX_calculate_119
      rw [← hr]
      refine xm_hw hop (fun o => br_f (by decide) ?_) (fun o => br_t rfl (br_t rfl ?_))
      · exact xs_thr B (hp1 o)
      · rw [hr]
        exact xs_fin B (hp0 o)
  refine br_f h11 (br_c (fun z => br_f (h10 z) body) (fun z => body))
end
end
section
section
variable {w : gw_T} {q : xq_T} {M M' : gm_T} {S : Nat → List gf_T} {a : Nat} {A' : List Nat} {V : gv_T} {F : gp_T} {G : gg_T} {N : gn_T} {nc sp : Nat} {u : SX} {f : gf_T} {L : List gf_T} {post : SX → Prop}
variable {e0 s0 k1 k2 : Int32} {n0 k3 : Int64}
theorem xb_num (hw : gw_S w) (hq : xq_S w q) (I : gk_I w M S (a :: A') V F G nc sp) (hR : xr_R w q M S (a :: A') V F G N sp u) (hSa : S a = f :: L) (hst : f.2.1 = 0) (hk : gw_K w f.1 = 0)
    (hp : ∀ u', xr_R w q (false, 0, 1, (gw_v w f.1).toInt64) (gk_su S a L) (a :: A') V F G N (sp + 1) u' → post u') : wpX_beginToken post u (nI (48 * a + L.length)) := by
  obtain ⟨en, vs, vn, ft, fs, fc, ke, ks, kn, cn, ac, gs, rfl, hP⟩ := hR
  have B := xo_mk hw I hSa hP
  have fo := xs_fo I hSa
  obtain ⟨i1, i2, eK, eS, eT, eC⟩ := xs_in hw B fo.1 hk hst
  have hn := hw.2.2.1
  have ef : (nI f.1).toNatClampNeg = f.1 := nI_clamp (by have := fo.1; omega)
  have i4 : vp_in (nI f.1) 48 := vp_in_nI (by have := fo.1; omega) (by decide)
  have eK2 : gw_K w (nI f.1).toNatClampNeg = 0 := by rw [ef]; exact hk
  refine nm_r (nI_1 sp) ⟨i1, nm_r eT ⟨i4, br_f (by rw [eK2]; decide) ⟨i4, ?_⟩⟩⟩
  rw [eK2]
  refine xm_ops 0 (by decide) (br_t rfl ⟨i1, ?_⟩)
  rw [eC]
  refine ⟨i4, nm_r eK2 ?_⟩
  refine br_t (by decide) ⟨i4, ?_⟩
  rw [ef]
  exact xs_fin B hp
theorem xb_nil (hw : gw_S w) (hq : xq_S w q) (I : gk_I w M S (a :: A') V F G nc sp) (hR : xr_R w q M S (a :: A') V F G N sp u) (hSa : S a = f :: L) (hst : f.2.1 = 0) (hk : gw_K w f.1 = 1)
    (hp : ∀ u', xr_R w q (false, 0, 0, 0) (gk_su S a L) (a :: A') V F G N (sp + 1) u' → post u') : wpX_beginToken post u (nI (48 * a + L.length)) := by
  obtain ⟨en, vs, vn, ft, fs, fc, ke, ks, kn, cn, ac, gs, rfl, hP⟩ := hR
  have B := xo_mk hw I hSa hP
  have fo := xs_fo I hSa
  obtain ⟨i1, i2, eK, eS, eT, eC⟩ := xs_in hw B fo.1 hk hst
  have hn := hw.2.2.1
  have ef : (nI f.1).toNatClampNeg = f.1 := nI_clamp (by have := fo.1; omega)
  have i4 : vp_in (nI f.1) 48 := vp_in_nI (by have := fo.1; omega) (by decide)
  have eK2 : gw_K w (nI f.1).toNatClampNeg = 1 := by rw [ef]; exact hk
  refine nm_r (nI_1 sp) ⟨i1, nm_r eT ⟨i4, br_f (by rw [eK2]; decide) ⟨i4, ?_⟩⟩⟩
  rw [eK2]
  refine xm_ops 1 (by decide) (br_t rfl ⟨i1, ?_⟩)
  rw [eC]
  refine ⟨i4, nm_r eK2 ?_⟩
  repeat (refine br_f (by decide) ?_)
  exact xs_fin B hp
theorem xb_brk (hw : gw_S w) (hq : xq_S w q) (I : gk_I w M S (a :: A') V F G nc sp) (hR : xr_R w q M S (a :: A') V F G N sp u) (hSa : S a = f :: L) (hst : f.2.1 = 0) (hk : gw_K w f.1 = 16)
    (hp : ∀ u', xr_R w q (false, 2, 0, 0) (gk_su S a L) (a :: A') V F G N (sp + 1) u' → post u') : wpX_beginToken post u (nI (48 * a + L.length)) := by
  obtain ⟨en, vs, vn, ft, fs, fc, ke, ks, kn, cn, ac, gs, rfl, hP⟩ := hR
  have B := xo_mk hw I hSa hP
  have fo := xs_fo I hSa
  obtain ⟨i1, i2, eK, eS, eT, eC⟩ := xs_in hw B fo.1 hk hst
  have hn := hw.2.2.1
  have ef : (nI f.1).toNatClampNeg = f.1 := nI_clamp (by have := fo.1; omega)
  have i4 : vp_in (nI f.1) 48 := vp_in_nI (by have := fo.1; omega) (by decide)
  have eK2 : gw_K w (nI f.1).toNatClampNeg = 16 := by rw [ef]; exact hk
  refine nm_r (nI_1 sp) ⟨i1, nm_r eT ⟨i4, br_f (by rw [eK2]; decide) ⟨i4, ?_⟩⟩⟩
  rw [eK2]
  refine xm_ops 16 (by decide) (br_t rfl ⟨i1, ?_⟩)
  rw [eC]
  refine ⟨i4, nm_r eK2 ?_⟩
  repeat (refine br_f (by decide) ?_)
  refine br_t (by decide) ?_
  exact xs_fas (M' := (false, 2, 0, 0)) B (fun _ => ⟨rfl, fun z => absurd z (by unfold gk_hv; decide)⟩) hp
theorem xb_nxt (hw : gw_S w) (hq : xq_S w q) (I : gk_I w M S (a :: A') V F G nc sp) (hR : xr_R w q M S (a :: A') V F G N sp u) (hSa : S a = f :: L) (hst : f.2.1 = 0) (hk : gw_K w f.1 = 17)
    (hp : ∀ u', xr_R w q (false, 3, 0, 0) (gk_su S a L) (a :: A') V F G N (sp + 1) u' → post u') : wpX_beginToken post u (nI (48 * a + L.length)) := by
  obtain ⟨en, vs, vn, ft, fs, fc, ke, ks, kn, cn, ac, gs, rfl, hP⟩ := hR
  have B := xo_mk hw I hSa hP
  have fo := xs_fo I hSa
  obtain ⟨i1, i2, eK, eS, eT, eC⟩ := xs_in hw B fo.1 hk hst
  have hn := hw.2.2.1
  have ef : (nI f.1).toNatClampNeg = f.1 := nI_clamp (by have := fo.1; omega)
  have i4 : vp_in (nI f.1) 48 := vp_in_nI (by have := fo.1; omega) (by decide)
  have eK2 : gw_K w (nI f.1).toNatClampNeg = 17 := by rw [ef]; exact hk
  refine nm_r (nI_1 sp) ⟨i1, nm_r eT ⟨i4, br_f (by rw [eK2]; decide) ⟨i4, ?_⟩⟩⟩
  rw [eK2]
  refine xm_ops 17 (by decide) (br_t rfl ⟨i1, ?_⟩)
  rw [eC]
  refine ⟨i4, nm_r eK2 ?_⟩
  repeat (refine br_f (by decide) ?_)
  refine br_t (by decide) ?_
  exact xs_fas (M' := (false, 3, 0, 0)) B (fun _ => ⟨rfl, fun z => absurd z (by unfold gk_hv; decide)⟩) hp
theorem xb_var (hw : gw_S w) (hq : xq_S w q) (I : gk_I w M S (a :: A') V F G nc sp) (hR : xr_R w q M S (a :: A') V F G N sp u) (hSa : S a = f :: L) (hst : f.2.1 = 0) (hk : gw_K w f.1 = 2) {b : Nat} (hbs : b ∈ gw_sc w f.1) (hmn : gw_mn w f.1 = nI b)
    (hp : ∀ u', xr_R w q (false, 0, V.2.2.1 (gk_fi V b (gw_sc w f.1) f.2.2.1), V.2.2.2.1 (gk_fi V b (gw_sc w f.1) f.2.2.1)) (gk_su S a L) (a :: A') V F G N (sp + 1) u' → post u') : wpX_beginToken post u (nI (48 * a + L.length)) := by
  obtain ⟨en, vs, vn, ft, fs, fc, ke, ks, kn, cn, ac, gs, rfl, hP⟩ := hR
  have B := xo_mk hw I hSa hP
  have fo := xs_fo I hSa
  obtain ⟨i1, i2, eK, eS, eT, eC⟩ := xs_in hw B fo.1 hk hst
  have hn := hw.2.2.1
  have ef : (nI f.1).toNatClampNeg = f.1 := nI_clamp (by have := fo.1; omega)
  have i4 : vp_in (nI f.1) 48 := vp_in_nI (by have := fo.1; omega) (by decide)
  have eK2 : gw_K w (nI f.1).toNatClampNeg = 2 := by rw [ef]; exact hk
  refine nm_r (nI_1 sp) ⟨i1, nm_r eT ⟨i4, br_f (by rw [eK2]; decide) ⟨i4, ?_⟩⟩⟩
  rw [eK2]
  refine xm_ops 2 (by decide) (br_t rfl ⟨i1, ?_⟩)
  rw [eC]
  refine ⟨i4, nm_r eK2 ?_⟩
  repeat (refine br_f (by decide) ?_)
  refine br_t (by decide) ⟨i4, ?_⟩
  have hvc := xg_vc I
  have hsc := hw.2.2.2.2.2.2.2.2.2.2.2 f.1 fo.1
  have hb48 : b < 48 := by have := hsc.2 b hbs; have := fo.1; omega
  have hfi := gk_fil (b := b) (by omega) _ _ fo.2.1 hbs
  rw [ef, hmn]
  refine xm_find hvc.1 hb48 rfl rfl fo.2.1 hbs (fun x hx => by have := hsc.2 x hx; have := fo.1; omega) (by have := hsc.1; have := fo.1; omega) ?_
  have i6 : vp_in (nI (gk_fi V b (gw_sc w f.1) f.2.2.1)) 600 := vp_in_nI (by omega) (by decide)
  have e6 : (nI (gk_fi V b (gw_sc w f.1) f.2.2.1)).toNatClampNeg = gk_fi V b (gw_sc w f.1) f.2.2.1 := nI_clamp (by omega)
  refine ⟨i6, i6, ?_⟩
  rw [e6]
  exact xs_fin B hp
theorem xb_fn (hw : gw_S w) (hq : xq_S w q) (I : gk_I w M S (a :: A') V F G nc sp) (hR : xr_R w q M S (a :: A') V F G N sp u) (hSa : S a = f :: L) (hst : f.2.1 = 0) (hk : gw_K w f.1 = 5) (h6 : F.2.2 < 600)
    (hp : ∀ u', xr_R w q (false, 0, 3, lN F.2.2) (gk_su S a L) (a :: A') V (upd F.1 F.2.2 (nI f.1), upd F.2.1 F.2.2 f.2.2.1, F.2.2 + 1) G N (sp + 1) u' → post u') : wpX_beginToken post u (nI (48 * a + L.length)) := by
  obtain ⟨en, vs, vn, ft, fs, fc, ke, ks, kn, cn, ac, gs, rfl, hP⟩ := hR
  have B := xo_mk hw I hSa hP
  have fo := xs_fo I hSa
  obtain ⟨i1, i2, eK, eS, eT, eC⟩ := xs_in hw B fo.1 hk hst
  have hn := hw.2.2.1
  have ef : (nI f.1).toNatClampNeg = f.1 := nI_clamp (by have := fo.1; omega)
  have i4 : vp_in (nI f.1) 48 := vp_in_nI (by have := fo.1; omega) (by decide)
  have eK2 : gw_K w (nI f.1).toNatClampNeg = 5 := by rw [ef]; exact hk
  refine nm_r (nI_1 sp) ⟨i1, nm_r eT ⟨i4, br_t eK2 ⟨i1, ?_⟩⟩⟩
  rw [eC]
  refine ⟨i4, nm_r eK2 ?_⟩
  repeat (refine br_f (by decide) ?_)
  have i6 : vp_in (nI F.2.2) 600 := vp_in_nI h6 (by decide)
  have e6 : (nI F.2.2).toNatClampNeg = F.2.2 := nI_clamp (by omega)
  refine br_t (by decide) ⟨i6, nm_r (by rw [e6]) ⟨i6, nm_r (by rw [e6]) ?_⟩⟩
  rw [nI_l (by omega)]
  refine xm_finish (d := A'.length) (a := a) (l := L.length) rfl B.2.1 B.2.2.2.2.1.1 B.1 (xo_cn B) (nm_r (nI_1 _) ?_)
  exact hp _ ⟨0, 3, lN F.2.2, ft, fs, fc, ke, ks, kn, _, ac, gs, rfl, fun _ => ⟨rfl, fun _ => ⟨rfl, rfl⟩⟩, B.2.2.2.2.1, xr_pop B.2.2.2.2.2.1 B.1 xo_lv B.2.2.1 B.2.2.2.1, B.2.2.2.2.2.2⟩
theorem xb_aw (hw : gw_S w) (hq : xq_S w q) (I : gk_I w M S (a :: A') V F G nc sp) (hR : xr_R w q M S (a :: A') V F G N sp u) (hSa : S a = f :: L) (hst : f.2.1 = 0) {k : Nat} (hk27 : k < 27) (hk : gw_K w f.1 = nI k) (h5 : nI k ≠ 5) (ho : 0 < gw_o w f.1) (hm : M'.1 = true)
    (hp : ∀ u', xr_R w q M' (gk_su S a ((gw_c w f.1 0, 0, f.2.2.1, e0, s0, n0) :: (f.1, 1, f.2.2.1, k1, k2, k3) :: L)) (a :: A') V F G N (sp + 1) u' → post u') : wpX_beginToken post u (nI (48 * a + L.length)) := by
  obtain ⟨en, vs, vn, ft, fs, fc, ke, ks, kn, cn, ac, gs, rfl, hP⟩ := hR
  have B := xo_mk hw I hSa hP
  have fo := xs_fo I hSa
  obtain ⟨i1, i2, eK, eS, eT, eC⟩ := xs_in hw B fo.1 hk hst
  have hn := hw.2.2.1
  have ef : (nI f.1).toNatClampNeg = f.1 := nI_clamp (by have := fo.1; omega)
  have i4 : vp_in (nI f.1) 48 := vp_in_nI (by have := fo.1; omega) (by decide)
  have eK2 : gw_K w (nI f.1).toNatClampNeg = nI k := by rw [ef]; exact hk
  have ho2 : gw_o w f.1 = gw_op (nI k) := by rw [hw.2.2.2.1 _ fo.1, hk]
  have h3 := gs_op3 (nI k)
  refine nm_r (nI_1 sp) ⟨i1, nm_r eT ⟨i4, br_f (by rw [eK2]; exact h5) ⟨i4, ?_⟩⟩⟩
  rw [eK2]
  refine xm_ops k hk27 (br_f (nI_ne0 (by omega) (by omega)) ⟨i1, ?_⟩)
  rw [eC]
  exact xs_wop (st := 1) B (xs_room hw I hSa ho) (fun z => absurd z (by decide)) hm rfl xs_c0 hp
end
section
variable {w : gw_T} {q : xq_T} {M M' : gm_T} {S : Nat → List gf_T} {a : Nat} {A' : List Nat} {V : gv_T} {F : gp_T} {G : gg_T} {N : gn_T} {nc sp : Nat} {u : SX} {post : SX → Prop}
theorem xr_Cm {K : Nat → Int32} {Z : Nat → gx_T} {cn : Nat → Int32} {P P' : Nat → Prop} {S : Nat → List gf_T} (h : xr_C K Z cn P S) (hP : ∀ s, P' s → P s) : xr_C K Z cn P' S :=
  fun s hs hp => h s hs (hP s hp)
theorem xe_lv {gc : Nat} : ∀ s, gk_lv A' gc s → gk_lv (a :: A') gc s := by
  intro s hs
  rcases hs with h | h
  · exact Or.inl (List.mem_cons_of_mem _ h)
  · exact Or.inr h
theorem xe_1 (I : gk_I w M S (a :: A') V F G nc sp) (hR : xr_R w q M S (a :: A') V F G N sp u) (hb : M.1 = false) (ha8 : a < 8) (hh : gk_hv M.2.1)
    (hp : ∀ u', xr_R w q (false, (if M.2.1 = 1 then 1 else 0), M.2.2) S A' V F G N sp u' → post u') : wpX_endActivation post u (nI a) := by
  obtain ⟨en, vs, vn, ft, fs, fc, ke, ks, kn, cn, ac, gs, rfl, hP⟩ := hR
  obtain ⟨hen, hv⟩ := hP.1 hb
  have ha := gk_Ia I
  have hvv := hv hh
  have hneg : nI a - 8 < 0 := pk_sneg (b := 8) (by decide) ha8
  refine nm_r (e' := nI A'.length) (nI_pred _) (br_c (fun z => nm_e (br_t hneg ?_)) (fun z => nm_e (br_t hneg ?_)))
  · rw [if_neg (by rw [← hen, z]; decide)] at hp
    exact hp _ ⟨0, vs, vn, ft, fs, fc, ke, ks, kn, cn, ac, gs, rfl, fun _ => ⟨rfl, fun _ => hvv⟩, hP.2.1.2, xr_Cm hP.2.2.1 xe_lv, hP.2.2.2⟩
  · have he : en = (if M.2.1 = 1 then 1 else 0) := by
      rcases hh with c | c | c
      · rw [hen, c]; rfl
      · rw [hen, c]; rfl
      · exact absurd (hen.trans c) z
    exact hp _ ⟨en, vs, vn, ft, fs, fc, ke, ks, kn, cn, ac, gs, rfl, fun _ => ⟨he, fun _ => hvv⟩, hP.2.1.2, xr_Cm hP.2.2.1 xe_lv, hP.2.2.2⟩
theorem xe_gs {g : Nat} {gs st cl : Nat → Int32} {gc : Nat} (h : ∀ g, g < gc → gs g = xr_g (st g) (cl g)) : ∀ i, i < gc → upd gs g 3 i = xr_g (upd st g 3 i) (cl i) := by
  intro i hi
  by_cases z : i = g
  · subst z
    rw [pk_us, pk_us, xr_g, if_neg (fun z => absurd z.1 (by decide))]
  · rw [pk_un z, pk_un z]
    exact h i hi
theorem xe_2 (I : gk_I w M S (a :: A') V F G nc sp) (hR : xr_R w q M S (a :: A') V F G N sp u) (hb : M.1 = false) {g : Nat} (hg : g < G.2.2.2) (hag : a = 8 + g) (h2 : G.1 g = 2) (hc : G.2.1 g = 0) (hh : gk_hv M.2.1)
    (hp : ∀ u', xr_R w q (false, (if M.2.1 = 1 then 1 else 0), M.2.2) S A' V F (upd G.1 g 3, G.2.1, G.2.2.1, G.2.2.2) N sp u' → post u') : wpX_endActivation post u (nI a) := by
  obtain ⟨en, vs, vn, ft, fs, fc, ke, ks, kn, cn, ac, gs, rfl, hP⟩ := hR
  obtain ⟨hen, hv⟩ := hP.1 hb
  have ha := gk_Ia I
  have hvc := I.2.2.2.2.1.2.2
  have egc : (nI g).toNatClampNeg = g := nI_clamp (by omega)
  have ig : vp_in (nI g) 8 := vp_in_nI (by omega) (by decide)
  have hng : ¬ nI g < 0 := nI_pos (by omega)
  have e8 : nI a - 8 = nI g := by rw [hag]; exact gk_g8
  have eg := hP.2.2.2 g hg
  have hvv := hv hh
  rw [xr_g, if_neg (fun z => absurd z.2 (by rw [hc]; decide)), h2] at eg
  refine nm_r (e' := nI A'.length) (nI_pred _) (br_c (fun z => nm_r e8 (br_f hng ⟨ig, br_f (by rw [egc, eg]; decide) ⟨ig, nm_r (e' := upd gs g 3) (by rw [egc]) ?_⟩⟩)) (fun z => nm_r e8 (br_f hng ⟨ig, br_f (by rw [egc, eg]; decide) ⟨ig, nm_r (e' := upd gs g 3) (by rw [egc]) ?_⟩⟩)))
  · rw [if_neg (by rw [← hen, z]; decide)] at hp
    exact hp _ ⟨0, vs, vn, ft, fs, fc, ke, ks, kn, cn, ac, upd gs g 3, rfl, fun _ => ⟨rfl, fun _ => hvv⟩, hP.2.1.2, xr_Cm hP.2.2.1 xe_lv, xe_gs hP.2.2.2⟩
  · have he : en = (if M.2.1 = 1 then 1 else 0) := by
      rcases hh with c | c | c
      · rw [hen, c]; rfl
      · rw [hen, c]; rfl
      · exact absurd (hen.trans c) z
    exact hp _ ⟨en, vs, vn, ft, fs, fc, ke, ks, kn, cn, ac, upd gs g 3, rfl, fun _ => ⟨he, fun _ => hvv⟩, hP.2.1.2, xr_Cm hP.2.2.1 xe_lv, xe_gs hP.2.2.2⟩
theorem xe_3 (I : gk_I w M S (a :: A') V F G nc sp) (hR : xr_R w q M S (a :: A') V F G N sp u) (hb : M.1 = false) {g : Nat} (hg : g < G.2.2.2) (hag : a = 8 + g) (h2 : G.1 g = 2) (hc : G.2.1 g = 1) (hh : M.2.1 = 1)
    (hp : ∀ u', xr_R w q (false, 1, M.2.2) S A' V F (upd G.1 g 3, G.2.1, G.2.2.1, G.2.2.2) N sp u' → post u') : wpX_endActivation post u (nI a) := by
  obtain ⟨en, vs, vn, ft, fs, fc, ke, ks, kn, cn, ac, gs, rfl, hP⟩ := hR
  obtain ⟨hen, hv⟩ := hP.1 hb
  have ha := gk_Ia I
  have hvc := I.2.2.2.2.1.2.2
  have egc : (nI g).toNatClampNeg = g := nI_clamp (by omega)
  have ig : vp_in (nI g) 8 := vp_in_nI (by omega) (by decide)
  have hng : ¬ nI g < 0 := nI_pos (by omega)
  have e8 : nI a - 8 = nI g := by rw [hag]; exact gk_g8
  have eg := hP.2.2.2 g hg
  have hvv := hv (Or.inr (Or.inl hh))
  rw [xr_g, if_pos ⟨h2, hc⟩] at eg
  refine nm_r (e' := nI A'.length) (nI_pred _) (br_f (by rw [hen, hh]; decide) (nm_r e8 (br_f hng ⟨ig, br_t (by rw [egc, eg]) (br_t (hen.trans hh) ⟨ig, nm_r (e' := upd gs g 3) (by rw [egc]) ?_⟩)⟩)))
  exact hp _ ⟨en, vs, vn, ft, fs, fc, ke, ks, kn, cn, ac, upd gs g 3, rfl, fun _ => ⟨hen.trans hh, fun _ => hvv⟩, hP.2.1.2, xr_Cm hP.2.2.1 xe_lv, xe_gs hP.2.2.2⟩
theorem xe_4 (I : gk_I w M S (a :: A') V F G nc sp) (hR : xr_R w q M S (a :: A') V F G N sp u) (hb : M.1 = false) {g : Nat} (hg : g < G.2.2.2) (hag : a = 8 + g) (h2 : G.1 g = 2) (hc : G.2.1 g = 1) (hh : M.2.1 ≠ 1)
    (hp : ∀ u', xr_R w q (false, 0, 0, 0) S A' V F (upd G.1 g 3, G.2.1, G.2.2.1, G.2.2.2) N sp u' → post u') : wpX_endActivation post u (nI a) := by
  obtain ⟨en, vs, vn, ft, fs, fc, ke, ks, kn, cn, ac, gs, rfl, hP⟩ := hR
  obtain ⟨hen, hv⟩ := hP.1 hb
  have ha := gk_Ia I
  have hvc := I.2.2.2.2.1.2.2
  have egc : (nI g).toNatClampNeg = g := nI_clamp (by omega)
  have ig : vp_in (nI g) 8 := vp_in_nI (by omega) (by decide)
  have hng : ¬ nI g < 0 := nI_pos (by omega)
  have e8 : nI a - 8 = nI g := by rw [hag]; exact gk_g8
  have eg := hP.2.2.2 g hg
  rw [xr_g, if_pos ⟨h2, hc⟩] at eg
  refine nm_r (e' := nI A'.length) (nI_pred _) (br_c (fun z => nm_r e8 (br_f hng ⟨ig, br_t (by rw [egc, eg]) (br_f (by decide) ⟨ig, nm_r (e' := upd gs g 3) (by rw [egc]) ?_⟩)⟩)) (fun z => nm_r e8 (br_f hng ⟨ig, br_t (by rw [egc, eg]) (br_f (by rw [hen]; exact hh) ⟨ig, nm_r (e' := upd gs g 3) (by rw [egc]) ?_⟩)⟩)))
  · exact hp _ ⟨0, 0, 0, ft, fs, fc, ke, ks, kn, cn, ac, upd gs g 3, rfl, fun _ => ⟨rfl, fun _ => ⟨rfl, rfl⟩⟩, hP.2.1.2, xr_Cm hP.2.2.1 xe_lv, xe_gs hP.2.2.2⟩
  · exact hp _ ⟨0, 0, 0, ft, fs, fc, ke, ks, kn, cn, ac, upd gs g 3, rfl, fun _ => ⟨rfl, fun _ => ⟨rfl, rfl⟩⟩, hP.2.1.2, xr_Cm hP.2.2.1 xe_lv, xe_gs hP.2.2.2⟩
end
end
section
def yr_row (s : Nat) : Nat := if s < 8 then 8 + s else s - 8
theorem yr_rl {s : Nat} (h : s < 16) : yr_row s < 16 := by unfold yr_row; split <;> omega
theorem yr_ri {s t : Nat} (h1 : s < 16) (h2 : t < 16) (h : yr_row s = yr_row t) : s = t := by
  unfold yr_row at h
  split at h <;> split at h <;> omega
theorem yr_rg (g : Nat) : yr_row (8 + g) = g := by
  unfold yr_row
  rw [if_neg (by omega)]
  omega
theorem yr_rd {d : Nat} (h : d < 8) : yr_row d = 8 + d := if_pos h
def yr_1 (K : Nat → Int32) (z : gx_T) (f : gf_T) : Prop :=
  z.1 = nI f.1 ∧ z.2.1 = nI (f.2.1 - 1) ∧ z.2.2.1 = f.2.2.1 ∧
  (f.2.1 = 2 → K f.1 ≠ 14 → z.2.2.2.1 = f.2.2.2.1 ∧ (gk_hv f.2.2.2.1 → z.2.2.2.2.1 = f.2.2.2.2.1 ∧ z.2.2.2.2.2 = f.2.2.2.2.2))
def yr_L (K : Nat → Int32) (Z : Nat → gx_T) (b : Nat) : List gf_T → Prop
  | [] => True
  | f :: L => (f.2.1 = 1 ∨ f.2.1 = 2 → yr_1 K (Z (b + gk_yl L)) f) ∧ yr_L K Z b L
theorem gk_yly {f : gf_T} {L : List gf_T} (h : f.2.1 = 1 ∨ f.2.1 = 2) : gk_yl (f :: L) = gk_yl L + 1 := if_pos h
theorem gk_yln {f : gf_T} {L : List gf_T} (h : ¬ (f.2.1 = 1 ∨ f.2.1 = 2)) : gk_yl (f :: L) = gk_yl L := if_neg h
theorem gk_yll : ∀ L, gk_yl L ≤ L.length := by
  intro L
  induction L with
  | nil => exact Nat.le_refl _
  | cons f L ih =>
    show gk_yl (f :: L) ≤ L.length + 1
    by_cases h : f.2.1 = 1 ∨ f.2.1 = 2
    · rw [gk_yly h]; omega
    · rw [gk_yln h]; omega
theorem yr_Lc {K : Nat → Int32} {Z Z' : Nat → gx_T} {b : Nat} : ∀ L, (∀ j, j < gk_yl L → Z' (b + j) = Z (b + j)) → yr_L K Z b L → yr_L K Z' b L := by
  intro L
  induction L with
  | nil => exact fun _ _ => trivial
  | cons f L ih =>
    intro h hL
    by_cases z : f.2.1 = 1 ∨ f.2.1 = 2
    · rw [gk_yly z] at h
      refine ⟨fun y => ?_, ih (fun j hj => h j (by omega)) hL.2⟩
      rw [h _ (by omega)]
      exact hL.1 y
    · rw [gk_yln z] at h
      exact ⟨fun y => absurd y z, ih h hL.2⟩
def yr_C (K : Nat → Int32) (Z : Nat → gx_T) (mn : Nat → Int32) (P : Nat → Prop) (S : Nat → List gf_T) : Prop :=
  ∀ s, s < 16 → P s → mn (yr_row s) = nI (gk_yl (S s)) ∧ yr_L K Z (48 * yr_row s) (S s)
theorem yr_ch {K : Nat → Int32} {Z Z' : Nat → gx_T} {mn mn' : Nat → Int32} {P P' : Nat → Prop} {S : Nat → List gf_T} {a : Nat} {L2 : List gf_T}
    (h : yr_C K Z mn P S) (ha : a < 16) (hl : ∀ s, s < 16 → P s → (S s).length ≤ 48) (hP : ∀ s, P' s → s ≠ a → P s)
    (hZ : ∀ i, (i < 48 * yr_row a ∨ 48 * yr_row a + 48 ≤ i) → Z' i = Z i) (hc : mn' (yr_row a) = nI (gk_yl L2)) (hc2 : ∀ r, r ≠ yr_row a → mn' r = mn r) (hL : yr_L K Z' (48 * yr_row a) L2) :
    yr_C K Z' mn' P' (gk_su S a L2) := by
  intro s hs hp
  by_cases z : s = a
  · subst z
    rw [gk_sus]
    exact ⟨hc, hL⟩
  · have hr : yr_row s ≠ yr_row a := fun e => z (yr_ri hs ha e)
    rw [gk_sun z, hc2 _ hr]
    have hp' := hP s hp z
    have h1 := h s hs hp'
    have h2 := hl s hs hp'
    have h3 := gk_yll (S s)
    refine ⟨h1.1, yr_Lc _ ?_ h1.2⟩
    intro j hj
    exact hZ _ (by omega)
theorem yr_flat {K : Nat → Int32} {Z : Nat → gx_T} {mn : Nat → Int32} {P P' : Nat → Prop} {S : Nat → List gf_T} {a : Nat} {f : gf_T} {L L2 : List gf_T}
    (h : yr_C K Z mn P S) (ha : a < 16) (hp : P a) (hl : ∀ s, s < 16 → P s → (S s).length ≤ 48) (hP : ∀ s, P' s → s ≠ a → P s) (hSa : S a = f :: L)
    {mn' : Nat → Int32} (hc : mn' (yr_row a) = nI (gk_yl L2)) (hc2 : ∀ r, r ≠ yr_row a → mn' r = mn r)
    (h2 : yr_L K Z (48 * yr_row a) L → yr_L K Z (48 * yr_row a) L2) : yr_C K Z mn' P' (gk_su S a L2) := by
  have h1 := (h a ha hp).2
  rw [hSa] at h1
  exact yr_ch h ha hl hP (fun _ _ => rfl) hc hc2 (h2 h1.2)
def yr_Z (wt wo wc wh ws : Nat → Int32) (wv : Nat → Int64) : Nat → gx_T := fun i => (wt i, wo i, wc i, wh i, ws i, wv i)
theorem yr_push {K wt wo wc wh ws mn : Nat → Int32} {wv : Nat → Int64} {P P' : Nat → Prop} {S : Nat → List gf_T} {a : Nat} {f : gf_T} {L : List gf_T}
    (h : yr_C K (yr_Z wt wo wc wh ws wv) mn P S) (ha : a < 16) (hp : P a) (hl : ∀ s, s < 16 → P s → (S s).length ≤ 48) (hP : ∀ s, P' s → s ≠ a → P s) (hSa : S a = f :: L)
    {t i st : Nat} {c c' e0 s0 k1 k2 h0 hs0 : Int32} {n0 k3 hv0 : Int64} (hst : st = 1 ∨ st = 2) {mn' : Nat → Int32} (hc : mn' (yr_row a) = nI (gk_yl L + 1)) (hc2 : ∀ r, r ≠ yr_row a → mn' r = mn r)
    (hk : st = 2 → K i ≠ 14 → h0 = k1 ∧ (gk_hv k1 → hs0 = k2 ∧ hv0 = k3)) :
    yr_C K (yr_Z (upd wt (48 * yr_row a + gk_yl L) (nI i)) (upd wo (48 * yr_row a + gk_yl L) (nI (st - 1))) (upd wc (48 * yr_row a + gk_yl L) c') (upd wh (48 * yr_row a + gk_yl L) h0) (upd ws (48 * yr_row a + gk_yl L) hs0) (vp_updL wv (48 * yr_row a + gk_yl L) hv0)) mn' P'
      (gk_su S a ((t, 0, c, e0, s0, n0) :: (i, st, c', k1, k2, k3) :: L)) := by
  have h1 := (h a ha hp).2
  rw [hSa] at h1
  have h2 := hl a ha hp
  rw [hSa] at h2
  have h2' : L.length + 1 ≤ 48 := h2
  have h3 := gk_yll L
  refine yr_ch h ha hl hP ?_ (by rw [hc]; show _ = nI (gk_yl ((i, st, c', k1, k2, k3) :: L)); rw [gk_yly hst]) hc2 ⟨fun z => (by rcases z with z | z <;> cases z), fun _ => ⟨pk_us, pk_us, pk_us, ?_⟩, ?_⟩
  · intro j hj
    exact xr_zu (pk_un (by omega)) (pk_un (by omega)) (pk_un (by omega)) (pk_un (by omega)) (pk_un (by omega)) (pk_uLn (by omega))
  · intro z1 z2
    obtain ⟨q1, q2⟩ := hk z1 z2
    refine ⟨?_, fun z => ⟨?_, ?_⟩⟩
    · show upd wh _ h0 _ = k1
      rw [pk_us]; exact q1
    · show upd ws _ hs0 _ = k2
      rw [pk_us]; exact (q2 z).1
    · show vp_updL wv _ hv0 _ = k3
      rw [pk_uLs]; exact (q2 z).2
  · refine yr_Lc _ ?_ h1.2
    intro j hj
    exact xr_zu (pk_un (by omega)) (pk_un (by omega)) (pk_un (by omega)) (pk_un (by omega)) (pk_un (by omega)) (pk_uLn (by omega))
abbrev yq_T : Type := Int32 × Int32 × Int32 × Int32 × (Nat → Int32) × (Nat → Int32) × (Nat → Int32) × (Nat → Int32) × (Nat → Int32) × (Nat → Int32) × (Nat → Int32) × (Nat → Int32) × (Nat → Int32) × (Nat → Int32) × (Nat → Int32)
def yq_kind (q : yq_T) : Nat → Int32 := q.2.2.2.2.2.2.1
def yq_with (q : yq_T) : Nat → Int32 := q.2.2.2.2.2.2.2.1
def yq_part (q : yq_T) : Nat → Int32 := q.2.2.2.2.2.2.2.2.2.2.1
def yq_means (q : yq_T) : Nat → Int32 := q.2.2.2.2.2.2.2.2.2.2.2.2.1
def yq_yields (q : yq_T) : Nat → Int32 := q.2.2.2.2.2.2.2.2.2.2.2.2.2.2
def yq_S (w : gw_T) (q : yq_T) : Prop :=
  (∀ i, i < gw_n w → yq_kind q i = gw_K w i ∧ yq_with q i = gw_v w i ∧ yq_means q i = gw_mn w i ∧ yq_yields q i = gw_gn w i) ∧
  (∀ i j, i < gw_n w → j < gw_o w i → yq_part q (3 * i + j) = nI (gw_c w i j))
abbrev ye_T : Type := Int32 × Int32 × Int64 × Int32
abbrev yr_t (q : yq_T) (E : ye_T) (A : List Nat) (V : gv_T) (F : gp_T) (G : gg_T) (N : gn_T) (sp : Nat) (bg tk ch hw so : Int32) (va : Int64) (gb gh ro mn wt wo wc wh ws : Nat → Int32) (wv : Nat → Int64) : SY :=
  (q.1, q.2.1, q.2.2.1, q.2.2.2.1, nI V.2.2.2.2, nI F.2.2, nI G.2.2.2, nI A.length, bg, tk, ch, hw, so, va, nI sp, E.1, E.2.1, E.2.2.1, E.2.2.2, nI N.2.2, q.2.2.2.2.1, q.2.2.2.2.2.1, q.2.2.2.2.2.2.1, q.2.2.2.2.2.2.2.1, q.2.2.2.2.2.2.2.2.1, q.2.2.2.2.2.2.2.2.2.1, q.2.2.2.2.2.2.2.2.2.2.1, q.2.2.2.2.2.2.2.2.2.2.2.1, q.2.2.2.2.2.2.2.2.2.2.2.2.1, q.2.2.2.2.2.2.2.2.2.2.2.2.2.1, q.2.2.2.2.2.2.2.2.2.2.2.2.2.2, V.1, V.2.1, V.2.2.1, V.2.2.2.1, F.1, F.2.1, G.1, gb, gh, G.2.2.1, G.2.1, ro, mn, wt, wo, wc, ws, wh, wv, N.1, N.2.1)
def yr_M (M : gm_T) (S : Nat → List gf_T) (A : List Nat) (bg tk ch hw so : Int32) (va : Int64) : Prop :=
  (M.1 = true → bg = 1 ∧ ∀ a A' f L, A = a :: A' → S a = f :: L → tk = nI f.1 ∧ ch = f.2.2.1) ∧
  (M.1 = false → bg = 0 ∧ hw = M.2.1 ∧ (gk_hv M.2.1 → so = M.2.2.1 ∧ va = M.2.2.2))
def yr_P (w : gw_T) (M : gm_T) (S : Nat → List gf_T) (A : List Nat) (G : gg_T) (bg tk ch hw so : Int32) (va : Int64) (gb gh ro mn wt wo wc wh ws : Nat → Int32) (wv : Nat → Int64) : Prop :=
  yr_M M S A bg tk ch hw so va ∧ xr_A ro yr_row A ∧ yr_C (gw_K w) (yr_Z wt wo wc wh ws wv) mn (gk_lv A G.2.2.2) S ∧
  (∀ g, g < G.2.2.2 → G.1 g = 0 → ∀ f, S (8 + g) = [f] → gb g = nI f.1 ∧ gh g = f.2.2.1)
def yr_R (w : gw_T) (q : yq_T) (E : ye_T) (M : gm_T) (S : Nat → List gf_T) (A : List Nat) (V : gv_T) (F : gp_T) (G : gg_T) (N : gn_T) (sp : Nat) (v : SY) : Prop :=
  ∃ bg tk ch hw so va gb gh ro mn wt wo wc wh ws wv, v = yr_t q E A V F G N sp bg tk ch hw so va gb gh ro mn wt wo wc wh ws wv ∧ yr_P w M S A G bg tk ch hw so va gb gh ro mn wt wo wc wh ws wv
end
section
theorem ym_b0 : vp_nar .boolean 0 = 0 := by decide
theorem ym_b1 : vp_nar .boolean 1 = 1 := by decide
section
variable {post : SY → Prop} {f_drafted f_length f_place f_there f_chains f_functions f_generators f_active f_begins f_token f_chain f_how f_sort : Int32} {f_value : Int64} {f_steps f_endSort f_status : Int32} {f_endNumber : Int64} {f_over f_noted : Int32} {a_draftKind a_draftWith a_kind a_with a_above a_as a_part a_open a_means a_own a_yields a_binder a_outer a_holdsSort : Nat → Int32} {a_holds : Nat → Int64} {a_fnToken a_fnChain a_state a_gBody a_gChain a_gYield a_closing a_rowOf a_many a_wToken a_wOperand a_wChain a_wSort a_wHow : Nat → Int32} {a_wValue : Nat → Int64} {a_noteSort : Nat → Int32} {a_noteNumber : Nat → Int64}
theorem ym_ops {posti : Int32 → Prop} : ∀ k, k < 27 → posti (nI (gw_op (nI k))) → wpY_operands posti (nI k) := by
  intro k hk h
  have c : k = 0 ∨ k = 1 ∨ k = 2 ∨ k = 3 ∨ k = 4 ∨ k = 5 ∨ k = 6 ∨ k = 7 ∨ k = 8 ∨ k = 9 ∨ k = 10 ∨ k = 11 ∨ k = 12 ∨ k = 13 ∨ k = 14 ∨ k = 15 ∨ k = 16 ∨ k = 17 ∨ k = 18 ∨ k = 19 ∨ k = 20 ∨ k = 21 ∨ k = 22 ∨ k = 23 ∨ k = 24 ∨ k = 25 ∨ k = 26 := by omega
  rcases c with rfl | rfl | rfl | rfl | rfl | rfl | rfl | rfl | rfl | rfl | rfl | rfl | rfl | rfl | rfl | rfl | rfl | rfl | rfl | rfl | rfl | rfl | rfl | rfl | rfl | rfl | rfl
  all_goals
    unfold wpY_operands wY_operands_25
    repeat (first | (refine br_f (by decide) ?_) | (refine br_t (by decide) ?_))
    exact h
theorem ym_ti {d : Nat} (hA : f_active = nI (d + 1)) (hd : d < 8) : vp_in (f_active - 1) 9 := by
  rw [hA, nI_pred]
  exact vp_in_nI (by omega) (by decide)
theorem ym_tp {d r : Nat} (hA : f_active = nI (d + 1)) (hd : d < 8) (hro : a_rowOf d = nI r) : a_rowOf (f_active - 1).toNatClampNeg = nI r := by
  rw [hA, nI_pred, nI_clamp (by omega), hro]
theorem ym_await {d r y i o : Nat} (hA : f_active = nI (d + 1)) (hd : d < 8) (hro : a_rowOf d = nI r) (hr : r < 16) (hmn : a_many r = nI y) (hy : y < 48) (hi : i < 48) (ho : o < 3) {p c pi po : Int32} (hpi : pi = nI i) (hpo : po = nI o) (hpt : a_part (3 * i + o) = p)
    (h : post (f_drafted, f_length, f_place, f_there, f_chains, f_functions, f_generators, f_active, 1, p, c, f_how, f_sort, f_value, f_steps, f_endSort, f_status, f_endNumber, f_over, f_noted, a_draftKind, a_draftWith, a_kind, a_with, a_above, a_as, a_part, a_open, a_means, a_own, a_yields, a_binder, a_outer, a_holdsSort, a_holds, a_fnToken, a_fnChain, a_state, a_gBody, a_gChain, a_gYield, a_closing, a_rowOf, upd a_many r (nI (y + 1)), upd a_wToken (48 * r + y) (nI i), upd a_wOperand (48 * r + y) (nI o), upd a_wChain (48 * r + y) c, upd a_wSort (48 * r + y) f_sort, upd a_wHow (48 * r + y) f_how, vp_updL a_wValue (48 * r + y) f_value, a_noteSort, a_noteNumber)) :
    wpY_await post (f_drafted, f_length, f_place, f_there, f_chains, f_functions, f_generators, f_active, f_begins, f_token, f_chain, f_how, f_sort, f_value, f_steps, f_endSort, f_status, f_endNumber, f_over, f_noted, a_draftKind, a_draftWith, a_kind, a_with, a_above, a_as, a_part, a_open, a_means, a_own, a_yields, a_binder, a_outer, a_holdsSort, a_holds, a_fnToken, a_fnChain, a_state, a_gBody, a_gChain, a_gYield, a_closing, a_rowOf, a_many, a_wToken, a_wOperand, a_wChain, a_wSort, a_wHow, a_wValue, a_noteSort, a_noteNumber) pi po c := by
  subst hpi hpo
  have e1 := ym_tp hA hd hro
  have i1 : vp_in (nI r) 17 := vp_in_nI (by omega) (by decide)
  have er : (nI r).toNatClampNeg = r := nI_clamp (by omega)
  have i2 : vp_in (nI (48 * r + y)) 816 := vp_in_nI (by omega) (by decide)
  have ek : (nI (48 * r + y)).toNatClampNeg = 48 * r + y := nI_clamp (by omega)
  have e2 : (48 : Int32) * nI r + a_many (nI r).toNatClampNeg = nI (48 * r + y) := by
    rw [er, hmn, show (48 : Int32) = nI 48 from rfl, pk_mul, nI_add]
  have e3 : (3 : Int32) * nI i + nI o = nI (3 * i + o) := by
    rw [show (3 : Int32) = nI 3 from rfl, pk_mul, nI_add]
  have i3 : vp_in ((3 : Int32) * nI i + nI o) 144 := by rw [e3]; exact vp_in_nI (by omega) (by decide)
  have e4 : a_part ((3 : Int32) * nI i + nI o).toNatClampNeg = p := by rw [e3, nI_clamp (by omega)]; exact hpt
  refine ⟨ym_ti hA hd, nm_r e1 ⟨i1, nm_r e2 ⟨i1, i1, nm_r (by rw [er, hmn, nI_1]) ⟨i2, nm_r (by rw [ek]) ⟨i2, nm_r (by rw [ek]) ⟨i2, nm_r (by rw [ek]) ⟨i2, nm_r (by rw [ek]) ⟨i2, nm_r (by rw [ek]) ⟨i2, nm_r (by rw [ek]) ⟨i3, ?_⟩⟩⟩⟩⟩⟩⟩⟩⟩⟩
  rw [e4]
  exact h
theorem ym_enterG {d r : Nat} (hA : f_active = nI d) (hd : d < 9) (hr : r < 8) (h : post (f_drafted, f_length, f_place, f_there, f_chains, f_functions, f_generators, nI (d + 1), f_begins, f_token, f_chain, f_how, f_sort, f_value, f_steps, f_endSort, f_status, f_endNumber, f_over, f_noted, a_draftKind, a_draftWith, a_kind, a_with, a_above, a_as, a_part, a_open, a_means, a_own, a_yields, a_binder, a_outer, a_holdsSort, a_holds, a_fnToken, a_fnChain, a_state, a_gBody, a_gChain, a_gYield, a_closing, upd a_rowOf d (nI r), a_many, a_wToken, a_wOperand, a_wChain, a_wSort, a_wHow, a_wValue, a_noteSort, a_noteNumber)) : wpY_enter post (f_drafted, f_length, f_place, f_there, f_chains, f_functions, f_generators, f_active, f_begins, f_token, f_chain, f_how, f_sort, f_value, f_steps, f_endSort, f_status, f_endNumber, f_over, f_noted, a_draftKind, a_draftWith, a_kind, a_with, a_above, a_as, a_part, a_open, a_means, a_own, a_yields, a_binder, a_outer, a_holdsSort, a_holds, a_fnToken, a_fnChain, a_state, a_gBody, a_gChain, a_gYield, a_closing, a_rowOf, a_many, a_wToken, a_wOperand, a_wChain, a_wSort, a_wHow, a_wValue, a_noteSort, a_noteNumber) (nI r) := by
  subst hA
  exact ⟨vp_in_nI hd (by decide), nm_r (by rw [nI_clamp (by omega)]) (nm_r (nI_1 d) (br_t (nI_le (b := 7) (by omega) (by decide)) h))⟩
theorem ym_enterD {d r : Nat} (hA : f_active = nI d) (hd : d < 9) (hr : 8 ≤ r) (hr2 : r < 16) {p : Int32} (hp : p = nI r) (h : post (f_drafted, f_length, f_place, f_there, f_chains, f_functions, f_generators, nI (d + 1), f_begins, f_token, f_chain, f_how, f_sort, f_value, f_steps, f_endSort, f_status, f_endNumber, f_over, f_noted, a_draftKind, a_draftWith, a_kind, a_with, a_above, a_as, a_part, a_open, a_means, a_own, a_yields, a_binder, a_outer, a_holdsSort, a_holds, a_fnToken, a_fnChain, a_state, a_gBody, a_gChain, a_gYield, a_closing, upd a_rowOf d (nI r), upd a_many r 0, a_wToken, a_wOperand, a_wChain, a_wSort, a_wHow, a_wValue, a_noteSort, a_noteNumber)) : wpY_enter post (f_drafted, f_length, f_place, f_there, f_chains, f_functions, f_generators, f_active, f_begins, f_token, f_chain, f_how, f_sort, f_value, f_steps, f_endSort, f_status, f_endNumber, f_over, f_noted, a_draftKind, a_draftWith, a_kind, a_with, a_above, a_as, a_part, a_open, a_means, a_own, a_yields, a_binder, a_outer, a_holdsSort, a_holds, a_fnToken, a_fnChain, a_state, a_gBody, a_gChain, a_gYield, a_closing, a_rowOf, a_many, a_wToken, a_wOperand, a_wChain, a_wSort, a_wHow, a_wValue, a_noteSort, a_noteNumber) p := by
  subst hA hp
  exact ⟨vp_in_nI hd (by decide), nm_r (by rw [nI_clamp (by omega)]) (nm_r (nI_1 d) (br_f (nI_ge (a := 7) (by omega) (by omega)) ⟨vp_in_nI (by omega) (by decide), nm_r (by rw [nI_clamp (by omega)]) h⟩))⟩
theorem ym_bind {postv : Int32 → SY → Prop} {v : Nat} (hv : f_chains = nI v) (h6 : v < 600) {b c s : Int32} {x : Int64}
    (h : postv (nI v) (f_drafted, f_length, f_place, f_there, nI (v + 1), f_functions, f_generators, f_active, f_begins, f_token, f_chain, f_how, f_sort, f_value, f_steps, f_endSort, f_status, f_endNumber, f_over, f_noted, a_draftKind, a_draftWith, a_kind, a_with, a_above, a_as, a_part, a_open, a_means, a_own, a_yields, upd a_binder v b, upd a_outer v c, upd a_holdsSort v s, vp_updL a_holds v x, a_fnToken, a_fnChain, a_state, a_gBody, a_gChain, a_gYield, a_closing, a_rowOf, a_many, a_wToken, a_wOperand, a_wChain, a_wSort, a_wHow, a_wValue, a_noteSort, a_noteNumber)) : wpY_bind postv (f_drafted, f_length, f_place, f_there, f_chains, f_functions, f_generators, f_active, f_begins, f_token, f_chain, f_how, f_sort, f_value, f_steps, f_endSort, f_status, f_endNumber, f_over, f_noted, a_draftKind, a_draftWith, a_kind, a_with, a_above, a_as, a_part, a_open, a_means, a_own, a_yields, a_binder, a_outer, a_holdsSort, a_holds, a_fnToken, a_fnChain, a_state, a_gBody, a_gChain, a_gYield, a_closing, a_rowOf, a_many, a_wToken, a_wOperand, a_wChain, a_wSort, a_wHow, a_wValue, a_noteSort, a_noteNumber) b c s x := by
  subst hv
  have i : vp_in (nI v) 700 := vp_in_nI (by omega) (by decide)
  have e : (nI v).toNatClampNeg = v := nI_clamp (by omega)
  refine ⟨i, nm_r (by rw [e]) ⟨i, nm_r (by rw [e]) ⟨i, nm_r (by rw [e]) ⟨i, nm_r (by rw [e]) (nm_r (nI_1 v) ?_)⟩⟩⟩⟩
  rw [nI_pred]
  exact h
theorem ym_true {posti : Int32 → Prop} {s : Int32} {x : Int64} (hs : f_sort = s) (hx : f_value = x) (h5 : s = 0 ∨ s = 1 ∨ s = 2 ∨ s = 3 ∨ s = 4) (h : posti (if gk_tr s x = true then 1 else 0)) : wpY_isTrue posti (f_drafted, f_length, f_place, f_there, f_chains, f_functions, f_generators, f_active, f_begins, f_token, f_chain, f_how, f_sort, f_value, f_steps, f_endSort, f_status, f_endNumber, f_over, f_noted, a_draftKind, a_draftWith, a_kind, a_with, a_above, a_as, a_part, a_open, a_means, a_own, a_yields, a_binder, a_outer, a_holdsSort, a_holds, a_fnToken, a_fnChain, a_state, a_gBody, a_gChain, a_gYield, a_closing, a_rowOf, a_many, a_wToken, a_wOperand, a_wChain, a_wSort, a_wHow, a_wValue, a_noteSort, a_noteNumber) := by
  subst hs hx
  have key : ∀ s : Int32, f_sort = s → (s = 0 ∨ s = 1 ∨ s = 2 ∨ s = 3 ∨ s = 4) → wpY_isTrue posti (f_drafted, f_length, f_place, f_there, f_chains, f_functions, f_generators, f_active, f_begins, f_token, f_chain, f_how, f_sort, f_value, f_steps, f_endSort, f_status, f_endNumber, f_over, f_noted, a_draftKind, a_draftWith, a_kind, a_with, a_above, a_as, a_part, a_open, a_means, a_own, a_yields, a_binder, a_outer, a_holdsSort, a_holds, a_fnToken, a_fnChain, a_state, a_gBody, a_gChain, a_gYield, a_closing, a_rowOf, a_many, a_wToken, a_wOperand, a_wChain, a_wSort, a_wHow, a_wValue, a_noteSort, a_noteNumber) := by
    intro s es hs
    rw [es] at h
    unfold wpY_isTrue
    dsimp only
    rw [es]
    rcases hs with rfl | rfl | rfl | rfl | rfl
    · exact br_f (by decide) (br_t (by decide) h)
    · refine br_f (by decide) (br_f (by decide) (br_c (fun z => ?_) (fun z => ?_)))
      · rw [z] at h; exact h
      · rw [gk_tr, if_pos (Or.inl rfl), decide_eq_true z] at h; exact h
    · refine br_f (by decide) (br_f (by decide) (br_c (fun z => ?_) (fun z => ?_)))
      · rw [z] at h; exact h
      · rw [gk_tr, if_pos (Or.inr rfl), decide_eq_true z] at h; exact h
    · exact br_t (by decide) h
    · exact br_t (by decide) h
  exact key f_sort rfl h5
end
section
variable {f_drafted f_length f_place f_there f_chains f_functions f_generators f_active f_begins f_token f_chain f_how f_sort : Int32} {f_value : Int64} {f_steps f_endSort f_status : Int32} {f_endNumber : Int64} {f_over f_noted : Int32} {a_draftKind a_draftWith a_kind a_with a_above a_as a_part a_open a_means a_own a_yields a_binder a_outer a_holdsSort : Nat → Int32} {a_holds : Nat → Int64} {a_fnToken a_fnChain a_state a_gBody a_gChain a_gYield a_closing a_rowOf a_many a_wToken a_wOperand a_wChain a_wSort a_wHow : Nat → Int32} {a_wValue : Nat → Int64} {a_noteSort : Nat → Int32} {a_noteNumber : Nat → Int64}
theorem ym_find2 {V : gv_T} {b : Nat} {post : Int32 → Prop} (hv : V.2.2.2.2 ≤ 600) (hb48 : b < 48) (e1 : a_binder = V.1) (e2 : a_outer = V.2.1) : ∀ l c n, gk_CH V l c → b ∈ l → (∀ x, x ∈ l → x < 48) → l.length < n →
    post (nI (gk_fi V b l c)) → wY_find_2 post (nI b) f_drafted f_length f_place f_there f_chains f_functions f_generators f_active f_begins f_token f_chain f_how f_sort f_value f_steps f_endSort f_status f_endNumber f_over f_noted a_draftKind a_draftWith a_kind a_with a_above a_as a_part a_open a_means a_own a_yields a_binder a_outer a_holdsSort a_holds a_fnToken a_fnChain a_state a_gBody a_gChain a_gYield a_closing a_rowOf a_many a_wToken a_wOperand a_wChain a_wSort a_wHow a_wValue a_noteSort a_noteNumber n c := by
  intro l
  induction l with
  | nil => intro c n _ h; cases h
  | cons b' l ih =>
    intro c n hc hb h48 hn h
    obtain ⟨n, rfl⟩ : ∃ x, n = x + 1 := ⟨n - 1, by omega⟩
    obtain ⟨i, hi, rfl, h1, h2⟩ := hc
    have hn2 : l.length + 1 < n + 1 := hn
    have ec : (nI i).toNatClampNeg = i := nI_clamp (by omega)
    have h : post (nI (if b' = b then (nI i).toNatClampNeg else gk_fi V b l (V.2.1 (nI i).toNatClampNeg))) := h
    rw [ec] at h
    have iv : vp_in (nI i) 700 := vp_in_nI (by omega) (by decide)
    refine ⟨iv, ?_⟩
    have eb : a_binder (nI i).toNatClampNeg = nI b' := by rw [ec, e1]; exact h1
    by_cases z : b' = b
    · rw [if_pos z] at h
      exact br_t (by rw [eb, z]) h
    · rw [if_neg z] at h
      refine br_f ?_ ⟨iv, nm_r (e' := V.2.1 i) (by rw [ec, e2]) ?_⟩
      · rw [eb, nI_eq (by have := h48 b' (List.mem_cons_self ..); omega) (by omega)]
        exact z
      · rcases List.mem_cons.mp hb with e | e
        · exact absurd e.symm z
        · exact ih _ n h2 e (fun x hx => h48 x (List.mem_cons_of_mem _ hx)) (by omega) h
theorem ym_find {V : gv_T} {b : Nat} {post : Int32 → Prop} {l : List Nat} {c : Int32} (hv : V.2.2.2.2 ≤ 600) (hb48 : b < 48) (e1 : a_binder = V.1) (e2 : a_outer = V.2.1) (hc : gk_CH V l c) (hb : b ∈ l) (h48 : ∀ x, x ∈ l → x < 48)
    (h : post (nI (gk_fi V b l c))) : wpY_find post (f_drafted, f_length, f_place, f_there, f_chains, f_functions, f_generators, f_active, f_begins, f_token, f_chain, f_how, f_sort, f_value, f_steps, f_endSort, f_status, f_endNumber, f_over, f_noted, a_draftKind, a_draftWith, a_kind, a_with, a_above, a_as, a_part, a_open, a_means, a_own, a_yields, a_binder, a_outer, a_holdsSort, a_holds, a_fnToken, a_fnChain, a_state, a_gBody, a_gChain, a_gYield, a_closing, a_rowOf, a_many, a_wToken, a_wOperand, a_wChain, a_wSort, a_wHow, a_wValue, a_noteSort, a_noteNumber) c (nI b) :=
  ⟨l.length + 1, ym_find2 hv hb48 e1 e2 l c (l.length + 1) hc hb h48 (by omega) h⟩
end
end
section
def yo_B (w : gw_T) (S : Nat → List gf_T) (A' : List Nat) (a : Nat) (f : gf_T) (L : List gf_T) (G : gg_T) (gb gh ro mn wt wo wc wh ws : Nat → Int32) (wv : Nat → Int64) : Prop :=
  a < 16 ∧ A'.length < 8 ∧ (∀ s, s < 16 → gk_lv (a :: A') G.2.2.2 s → (S s).length ≤ 48) ∧ S a = f :: L ∧ xr_A ro yr_row (a :: A') ∧
  yr_C (gw_K w) (yr_Z wt wo wc wh ws wv) mn (gk_lv (a :: A') G.2.2.2) S ∧ (∀ g, g < G.2.2.2 → G.1 g = 0 → 8 + g ≠ a ∧ ∀ f, S (8 + g) = [f] → gb g = nI f.1 ∧ gh g = f.2.2.1)
section
variable {w : gw_T} {q : yq_T} {E : ye_T} {M M' : gm_T} {S : Nat → List gf_T} {a : Nat} {A' : List Nat} {V : gv_T} {F : gp_T} {G : gg_T} {N : gn_T} {nc sp : Nat} {v : SY} {f : gf_T} {L L2 : List gf_T} {post : SY → Prop}
variable {bg tk ch hw so : Int32} {va : Int64} {gb gh ro mn wt wo wc wh ws : Nat → Int32} {wv : Nat → Int64}
theorem yo_mk (hw0 : gw_S w) (I : gk_I w M S (a :: A') V F G nc sp) (hSa : S a = f :: L) (hP : yr_P w M S (a :: A') G bg tk ch hw so va gb gh ro mn wt wo wc wh ws wv) : yo_B w S A' a f L G gb gh ro mn wt wo wc wh ws wv := by
  refine ⟨gk_Ia I, I.2.1.2, xo_len hw0 I, hSa, hP.2.1, hP.2.2.1, ?_⟩
  intro g hg h0
  refine ⟨?_, hP.2.2.2 g hg h0⟩
  intro e
  have h2 := (I.2.2.1 g hg).2.2.1.mpr (by rw [e]; exact List.mem_cons_self ..)
  rw [h0] at h2
  exact absurd h2 (by decide)
theorem yo_r (B : yo_B w S A' a f L G gb gh ro mn wt wo wc wh ws wv) : yr_row a < 16 := yr_rl B.1
theorem yo_y (B : yo_B w S A' a f L G gb gh ro mn wt wo wc wh ws wv) : gk_yl L < 48 := by
  have h := B.2.2.1 a B.1 (Or.inl (List.mem_cons_self ..))
  rw [B.2.2.2.1] at h
  have h2 : L.length + 1 ≤ 48 := h
  have := gk_yll L
  omega
theorem yo_mn (B : yo_B w S A' a f L G gb gh ro mn wt wo wc wh ws wv) : mn (yr_row a) = nI (gk_yl (f :: L)) := by
  have h := (B.2.2.2.2.2.1 a B.1 (Or.inl (List.mem_cons_self ..))).1
  rw [B.2.2.2.1] at h
  exact h
theorem yo_L (B : yo_B w S A' a f L G gb gh ro mn wt wo wc wh ws wv) : yr_L (gw_K w) (yr_Z wt wo wc wh ws wv) (48 * yr_row a) (f :: L) := by
  have h := (B.2.2.2.2.2.1 a B.1 (Or.inl (List.mem_cons_self ..))).2
  rw [B.2.2.2.1] at h
  exact h
theorem yo_g (B : yo_B w S A' a f L G gb gh ro mn wt wo wc wh ws wv) {st' : Nat → Int32} (hst : ∀ i, i < G.2.2.2 → st' i = 0 → G.1 i = 0) :
    ∀ g, g < G.2.2.2 → st' g = 0 → ∀ f', gk_su S a L2 (8 + g) = [f'] → gb g = nI f'.1 ∧ gh g = f'.2.2.1 := by
  intro g hg h0 f' e
  have h := B.2.2.2.2.2.2 g hg (hst g hg h0)
  rw [gk_sun h.1] at e
  exact h.2 f' e
theorem yf_top (B : yo_B w S A' a f L G gb gh ro mn wt wo wc wh ws wv) {V' : gv_T} {F' : gp_T} {N' : gn_T} {sp' : Nat} {st' cl' gy' mn' : Nat → Int32}
    (hst : ∀ i, i < G.2.2.2 → st' i = 0 → G.1 i = 0) (h1 : mn' (yr_row a) = nI (gk_yl L2)) (h2 : ∀ r, r ≠ yr_row a → mn' r = mn r)
    (hL : yr_L (gw_K w) (yr_Z wt wo wc wh ws wv) (48 * yr_row a) L → yr_L (gw_K w) (yr_Z wt wo wc wh ws wv) (48 * yr_row a) L2)
    (hm : yr_M M' (gk_su S a L2) (a :: A') bg tk ch hw so va)
    (hp : ∀ v', yr_R w q E M' (gk_su S a L2) (a :: A') V' F' (st', cl', gy', G.2.2.2) N' sp' v' → post v') :
    post (yr_t q E (a :: A') V' F' (st', cl', gy', G.2.2.2) N' sp' bg tk ch hw so va gb gh ro mn' wt wo wc wh ws wv) :=
  hp _ ⟨_, _, _, _, _, _, _, _, _, _, _, _, _, _, _, _, rfl, hm, B.2.2.2.2.1, yr_flat B.2.2.2.2.2.1 B.1 (Or.inl (List.mem_cons_self ..)) B.2.2.1 (fun s q _ => q) B.2.2.2.1 h1 h2 hL, yo_g B hst⟩
theorem yf_mb {t : Nat} {c e0 s0 : Int32} {n0 : Int64} (hm : M'.1 = true) : yr_M M' (gk_su S a ((t, 0, c, e0, s0, n0) :: L2)) (a :: A') 1 (nI t) c hw so va := by
  refine ⟨fun _ => ⟨rfl, ?_⟩, fun z => absurd (hm.symm.trans z) (by decide)⟩
  intro a2 A2 f2 L3 e1 e2
  cases e1
  rw [gk_sus] at e2
  cases e2
  exact ⟨rfl, rfl⟩
theorem yf_me {h s : Int32} {x : Int64} : yr_M (false, h, s, x) S (a :: A') 0 tk ch h s x :=
  ⟨fun z => (by cases z), fun _ => ⟨rfl, rfl, fun _ => ⟨rfl, rfl⟩⟩⟩
theorem yp_in (hw0 : gw_S w) (hq : yq_S w q) (B : yo_B w S A' a f L G gb gh ro mn wt wo wc wh ws wv) (hn : f.1 < gw_n w) (hst : f.2.1 = 1 ∨ f.2.1 = 2) {kd : Int32} {sg : Nat} (hk : gw_K w f.1 = kd) (hs : f.2.1 - 1 = sg) :
    vp_in (nI (a :: A').length - 1) 9 ∧ ro (nI (a :: A').length - 1).toNatClampNeg = nI (yr_row a) ∧ vp_in (nI (yr_row a)) 17 ∧ ¬ mn (nI (yr_row a)).toNatClampNeg = 0 ∧
    upd mn (nI (yr_row a)).toNatClampNeg (mn (nI (yr_row a)).toNatClampNeg - 1) = upd mn (yr_row a) (nI (gk_yl L)) ∧
    (48 : Int32) * nI (yr_row a) + upd mn (yr_row a) (nI (gk_yl L)) (nI (yr_row a)).toNatClampNeg = nI (48 * yr_row a + gk_yl L) ∧
    vp_in (nI (48 * yr_row a + gk_yl L)) 816 ∧ wt (nI (48 * yr_row a + gk_yl L)).toNatClampNeg = nI f.1 ∧ wo (nI (48 * yr_row a + gk_yl L)).toNatClampNeg = nI sg ∧ vp_in (nI f.1) 48 ∧
    wc (nI (48 * yr_row a + gk_yl L)).toNatClampNeg = f.2.2.1 ∧ q.2.2.2.2.2.2.1 (nI f.1).toNatClampNeg = kd ∧
    (f.2.1 = 2 → gw_K w f.1 ≠ 14 → wh (nI (48 * yr_row a + gk_yl L)).toNatClampNeg = f.2.2.2.1 ∧ (gk_hv f.2.2.2.1 → ws (nI (48 * yr_row a + gk_yl L)).toNatClampNeg = f.2.2.2.2.1 ∧ wv (nI (48 * yr_row a + gk_yl L)).toNatClampNeg = f.2.2.2.2.2)) := by
  have hr := yo_r B
  have hy := yo_y B
  have h1 := yo_mn B
  have h2 := (yo_L B).1 hst
  rw [gk_yly hst] at h1
  have hn2 := hw0.2.2.1
  have er : (nI (yr_row a)).toNatClampNeg = yr_row a := nI_clamp (by omega)
  have ek : (nI (48 * yr_row a + gk_yl L)).toNatClampNeg = 48 * yr_row a + gk_yl L := nI_clamp (by omega)
  have ef : (nI f.1).toNatClampNeg = f.1 := nI_clamp (by omega)
  have e1 : wt (48 * yr_row a + gk_yl L) = nI f.1 := h2.1
  have e2 : wo (48 * yr_row a + gk_yl L) = nI (f.2.1 - 1) := h2.2.1
  have e3 : wc (48 * yr_row a + gk_yl L) = f.2.2.1 := h2.2.2.1
  have e5 : q.2.2.2.2.2.2.1 f.1 = gw_K w f.1 := (hq.1 f.1 hn).1
  refine ⟨ym_ti (d := A'.length) rfl B.2.1, ym_tp (d := A'.length) rfl B.2.1 B.2.2.2.2.1.1, vp_in_nI (by omega) (by decide), ?_, ?_, ?_, vp_in_nI (by omega) (by decide), ?_, ?_, vp_in_nI (by omega) (by decide), ?_, ?_, ?_⟩
  · rw [er, h1]
    exact nI_ne0 (by omega) (by omega)
  · rw [er, h1, nI_pred]
  · rw [er, pk_us, show (48 : Int32) = nI 48 from rfl, pk_mul, nI_add]
  · rw [ek]; exact e1
  · rw [ek, e2, hs]
  · rw [ek]; exact e3
  · rw [ef, e5, hk]
  · rw [ek]; exact h2.2.2.2
theorem ys_skip (hw0 : gw_S w) (I : gk_I w M S (a :: A') V F G nc sp) (hR : yr_R w q E M S (a :: A') V F G N sp v) (hSa : S a = f :: L) (hb : M.1 = false) (hst : f.2.1 = 3) : yr_R w q E M (gk_su S a L) (a :: A') V F G N sp v := by
  obtain ⟨bg, tk, ch, hw, so, va, gb, gh, ro, mn, wt, wo, wc, wh, ws, wv, rfl, hP⟩ := hR
  have B := yo_mk hw0 I hSa hP
  have h1 := yo_mn B
  rw [gk_yln (by omega)] at h1
  exact yf_top (post := fun v => yr_R w q E M (gk_su S a L) (a :: A') V F G N sp v) (V' := V) (F' := F) (N' := N) (sp' := sp) (M' := M) (E := E) (q := q) (st' := G.1) (cl' := G.2.1) (gy' := G.2.2.1) B (fun _ _ z => z) h1 (fun _ _ => rfl) (fun z => z) ⟨fun z => absurd (hb.symm.trans z) (by decide), hP.1.2⟩ (fun v' h => h)
end
end
section
theorem gk_0y {P : Prop} : (0 : Nat) = 1 ∨ (0 : Nat) = 2 → P := fun z => absurd z (by decide)
theorem gk_3y {P : Prop} : (3 : Nat) = 1 ∨ (3 : Nat) = 2 → P := fun z => absurd z (by decide)
section
variable {w : gw_T} {q : yq_T} {E : ye_T} {M M' : gm_T} {S : Nat → List gf_T} {a : Nat} {A' : List Nat} {V : gv_T} {F : gp_T} {G : gg_T} {N : gn_T} {nc sp : Nat} {v : SY} {f : gf_T} {L : List gf_T} {post : SY → Prop}
variable {e0 s0 k1 k2 : Int32} {n0 k3 : Int64}
theorem yf_ms {A : List Nat} {bg tk ch hw so : Int32} {va : Int64} {S' : Nat → List gf_T} (hb : M.1 = false) (h : bg = 0 ∧ hw = M.2.1 ∧ (gk_hv M.2.1 → so = M.2.2.1 ∧ va = M.2.2.2)) : yr_M M S' A bg tk ch hw so va :=
  ⟨fun z => absurd (hb.symm.trans z) (by decide), fun _ => h⟩
theorem yf_await (hw0 : gw_S w) (hq : yq_S w q) {bg tk ch hw so c : Int32} {va : Int64} {gb gh ro mn mn0 wt wo wc wh ws : Nat → Int32} {wv : Nat → Int64} (B : yo_B w S A' a f L G gb gh ro mn wt wo wc wh ws wv) (hn : f.1 < gw_n w)
    {o : Nat} (ho : o < gw_o w f.1) (ho2 : o < 2) (h1 : mn0 (yr_row a) = nI (gk_yl L)) (h2 : ∀ r, r ≠ yr_row a → mn0 r = mn r)
    (hk : o + 1 = 2 → gw_K w f.1 ≠ 14 → hw = k1 ∧ (gk_hv k1 → so = k2 ∧ va = k3)) {pi po : Int32} (hpi : pi = nI f.1) (hpo : po = nI o) (hm : M'.1 = true)
    (hp : ∀ v', yr_R w q E M' (gk_su S a ((gw_c w f.1 o, 0, c, e0, s0, n0) :: (f.1, o + 1, c, k1, k2, k3) :: L)) (a :: A') V F G N sp v' → post v') :
    wpY_await post (yr_t q E (a :: A') V F G N sp bg tk ch hw so va gb gh ro mn0 wt wo wc wh ws wv) pi po c := by
  have hn2 := hw0.2.2.1
  refine ym_await (d := A'.length) (r := yr_row a) (y := gk_yl L) (i := f.1) (o := o) rfl B.2.1 B.2.2.2.2.1.1 (yo_r B) h1 (yo_y B) (by omega) (by omega) hpi hpo (hq.2 f.1 o hn ho) ?_
  exact hp _ ⟨_, _, _, _, _, _, gb, gh, ro, _, _, _, _, _, _, _, rfl, yf_mb hm, B.2.2.2.2.1,
    yr_push (st := o + 1) B.2.2.2.2.2.1 B.1 (Or.inl (List.mem_cons_self ..)) B.2.2.1 (fun s q _ => q) B.2.2.2.1 (by omega) pk_us (fun r h => by rw [pk_un h]; exact h2 r h) hk, yo_g B (fun _ _ z => z)⟩
theorem yp_p1 (hw0 : gw_S w) (hq : yq_S w q) {t : Nat} (ht : t < gw_n w) (ho : 1 < gw_o w t) : vp_in ((3 : Int32) * nI t + 1) 144 ∧ q.2.2.2.2.2.2.2.2.2.2.1 ((3 : Int32) * nI t + 1).toNatClampNeg = nI (gw_c w t 1) := by
  have hn := hw0.2.2.1
  have e : (3 : Int32) * nI t + 1 = nI (3 * t + 1) := by rw [show (3 : Int32) = nI 3 from rfl, pk_mul, nI_1]
  rw [e, nI_clamp (by omega)]
  exact ⟨vp_in_nI (by omega) (by decide), hq.2 t 1 ht ho⟩
theorem yp_p2 (hw0 : gw_S w) (hq : yq_S w q) {t : Nat} (ht : t < gw_n w) (ho : 2 < gw_o w t) : vp_in ((3 : Int32) * nI t + 2) 144 ∧ q.2.2.2.2.2.2.2.2.2.2.1 ((3 : Int32) * nI t + 2).toNatClampNeg = nI (gw_c w t 2) := by
  have hn := hw0.2.2.1
  have e : (3 : Int32) * nI t + 2 = nI (3 * t + 2) := by rw [show (3 : Int32) = nI 3 from rfl, show (2 : Int32) = nI 2 from rfl, pk_mul, nI_add]
  rw [e, nI_clamp (by omega)]
  exact ⟨vp_in_nI (by omega) (by decide), hq.2 t 2 ht ho⟩
theorem yp_p0 (hw0 : gw_S w) (hq : yq_S w q) {t : Nat} (ht : t < gw_n w) (ho : 0 < gw_o w t) : vp_in ((3 : Int32) * nI t) 144 ∧ q.2.2.2.2.2.2.2.2.2.2.1 ((3 : Int32) * nI t).toNatClampNeg = nI (t + 1) := by
  have hn := hw0.2.2.1
  have e : (3 : Int32) * nI t = nI (3 * t) := by rw [show (3 : Int32) = nI 3 from rfl, pk_mul]
  rw [e, nI_clamp (by omega)]
  exact ⟨vp_in_nI (by omega) (by decide), hq.2 t 0 ht ho⟩
theorem yg_f1 (hw0 : gw_S w) (hq : yq_S w q) (I : gk_I w M S (a :: A') V F G nc sp) (hR : yr_R w q E M S (a :: A') V F G N sp v) (hSa : S a = f :: L) (hb : M.1 = false) (hst : f.2.1 = 1) (hk : gw_K w f.1 = 21) (hm : M'.1 = true)
    (hp : ∀ v', yr_R w q E M' (gk_su S a ((gw_c w f.1 1, 0, f.2.2.1, e0, s0, n0) :: (f.1, 2, f.2.2.1, M.2) :: L)) (a :: A') V F G N sp v' → post v') : wpY_pass post v := by
  obtain ⟨bg, tk, ch, hw, so, va, gb, gh, ro, mn, wt, wo, wc, wh, ws, wv, rfl, hP⟩ := hR
  have B := yo_mk hw0 I hSa hP
  have fo := xs_fo I hSa
  obtain ⟨hbg, hhw, hv⟩ := hP.1.2 hb
  obtain ⟨j1, jr, j2, jn, jm, jk, j3, jt, jo, j4, jc, jK, jW⟩ := yp_in hw0 hq B fo.1 (Or.inl hst) hk (sg := 0) (by rw [hst])
  have ho : gw_o w f.1 = 2 := by rw [hw0.2.2.2.1 _ fo.1, hk]; decide
  refine ⟨j1, nm_r jr ⟨j2, br_f jn ⟨j2, j2, nm_r jm ⟨j2, nm_r jk ⟨j3, nm_r jt ⟨j3, nm_r jo ⟨j4, ?_⟩⟩⟩⟩⟩⟩⟩
  rw [jK]
  refine br_t (by decide) (br_t (by decide) ⟨j3, ?_⟩)
  rw [jc]
  exact yf_await (o := 1) hw0 hq B fo.1 (by omega) (by decide) pk_us (fun r h => pk_un h) (fun _ _ => ⟨hhw, hv⟩) rfl rfl hm hp
theorem yg_f2 (hw0 : gw_S w) (hq : yq_S w q) (I : gk_I w M S (a :: A') V F G nc sp) (hR : yr_R w q E M S (a :: A') V F G N sp v) (hSa : S a = f :: L) (hb : M.1 = false) (hh : M.2.1 = 0) (hst : f.2.1 = 2) (hk : gw_K w f.1 = 21)
    (hp : ∀ v', yr_R w q E (false, f.2.2.2) (gk_su S a L) (a :: A') V F G N sp v' → post v') : wpY_pass post v := by
  obtain ⟨bg, tk, ch, hw, so, va, gb, gh, ro, mn, wt, wo, wc, wh, ws, wv, rfl, hP⟩ := hR
  have B := yo_mk hw0 I hSa hP
  have fo := xs_fo I hSa
  obtain ⟨hbg, hhw, hv⟩ := hP.1.2 hb
  obtain ⟨j1, jr, j2, jn, jm, jk, j3, jt, jo, j4, jc, jK, jW⟩ := yp_in hw0 hq B fo.1 (Or.inr hst) hk (sg := 1) (by rw [hst])
  have hW := jW hst (by rw [hk]; decide)
  refine ⟨j1, nm_r jr ⟨j2, br_f jn ⟨j2, j2, nm_r jm ⟨j2, nm_r jk ⟨j3, nm_r jt ⟨j3, nm_r jo ⟨j4, ?_⟩⟩⟩⟩⟩⟩⟩
  rw [jK]
  refine br_t (by decide) (br_f (by decide) (br_t (hhw.trans hh) ⟨j3, j3, j3, ?_⟩))
  exact yf_top (M' := (false, f.2.2.2)) (L2 := L) (post := post) (V' := V) (F' := F) (N' := N) (sp' := sp) (st' := G.1) (cl' := G.2.1) (gy' := G.2.2.1) B (fun _ _ z => z) pk_us (fun r h => pk_un h) (fun z => z) ⟨fun z => (by cases z), fun _ => ⟨rfl, hW.1, hW.2⟩⟩ hp
theorem yg_f2p (hw0 : gw_S w) (hq : yq_S w q) (I : gk_I w M S (a :: A') V F G nc sp) (hR : yr_R w q E M S (a :: A') V F G N sp v) (hSa : S a = f :: L) (hb : M.1 = false) (hh : M.2.1 ≠ 0) (hst : f.2.1 = 2) (hk : gw_K w f.1 = 21)
    (hp : ∀ v', yr_R w q E M (gk_su S a L) (a :: A') V F G N sp v' → post v') : wpY_pass post v := by
  obtain ⟨bg, tk, ch, hw, so, va, gb, gh, ro, mn, wt, wo, wc, wh, ws, wv, rfl, hP⟩ := hR
  have B := yo_mk hw0 I hSa hP
  have fo := xs_fo I hSa
  obtain ⟨hbg, hhw, hv⟩ := hP.1.2 hb
  obtain ⟨j1, jr, j2, jn, jm, jk, j3, jt, jo, j4, jc, jK, jW⟩ := yp_in hw0 hq B fo.1 (Or.inr hst) hk (sg := 1) (by rw [hst])
  refine ⟨j1, nm_r jr ⟨j2, br_f jn ⟨j2, j2, nm_r jm ⟨j2, nm_r jk ⟨j3, nm_r jt ⟨j3, nm_r jo ⟨j4, ?_⟩⟩⟩⟩⟩⟩⟩
  rw [jK]
  refine br_t (by decide) (br_f (by decide) (br_f (by rw [hhw]; exact hh) ?_))
  exact yf_top (M' := M) (L2 := L) (post := post) (V' := V) (F' := F) (N' := N) (sp' := sp) (st' := G.1) (cl' := G.2.1) (gy' := G.2.2.1) B (fun _ _ z => z) pk_us (fun r h => pk_un h) (fun z => z) (yf_ms hb ⟨hbg, hhw, hv⟩) hp
theorem yg_pw1 (hw0 : gw_S w) (hq : yq_S w q) (I : gk_I w M S (a :: A') V F G nc sp) (hR : yr_R w q E M S (a :: A') V F G N sp v) (hSa : S a = f :: L) (hb : M.1 = false) (hh : M.2.1 ≠ 0) (hst : f.2.1 = 1) (hk : gw_K w f.1 = 14)
    (hp : ∀ v', yr_R w q E M (gk_su S a L) (a :: A') V F G N sp v' → post v') : wpY_pass post v := by
  obtain ⟨bg, tk, ch, hw, so, va, gb, gh, ro, mn, wt, wo, wc, wh, ws, wv, rfl, hP⟩ := hR
  have B := yo_mk hw0 I hSa hP
  have fo := xs_fo I hSa
  obtain ⟨hbg, hhw, hv⟩ := hP.1.2 hb
  obtain ⟨j1, jr, j2, jn, jm, jk, j3, jt, jo, j4, jc, jK, jW⟩ := yp_in hw0 hq B fo.1 (Or.inl hst) hk (sg := 0) (by rw [hst])
  refine ⟨j1, nm_r jr ⟨j2, br_f jn ⟨j2, j2, nm_r jm ⟨j2, nm_r jk ⟨j3, nm_r jt ⟨j3, nm_r jo ⟨j4, ?_⟩⟩⟩⟩⟩⟩⟩
  rw [jK]
  refine br_f (by decide) ⟨j4, br_t (by decide) (br_t (by decide) (br_f (by rw [hhw]; exact hh) (br_f (by decide) (br_f (by decide) ?_))))⟩
  exact yf_top (M' := M) (L2 := L) (post := post) (V' := V) (F' := F) (N' := N) (sp' := sp) (st' := G.1) (cl' := G.2.1) (gy' := G.2.2.1) B (fun _ _ z => z) pk_us (fun r h => pk_un h) (fun z => z) (yf_ms hb ⟨hbg, hhw, hv⟩) hp
theorem yg_pw2 (hw0 : gw_S w) (hq : yq_S w q) (I : gk_I w M S (a :: A') V F G nc sp) (hR : yr_R w q E M S (a :: A') V F G N sp v) (hSa : S a = f :: L) (hb : M.1 = false) (h0 : M.2.1 ≠ 0) (h3 : M.2.1 ≠ 3) (h2 : M.2.1 ≠ 2) (hst : f.2.1 = 2) (hk : gw_K w f.1 = 14)
    (hp : ∀ v', yr_R w q E M (gk_su S a L) (a :: A') V F G N sp v' → post v') : wpY_pass post v := by
  obtain ⟨bg, tk, ch, hw, so, va, gb, gh, ro, mn, wt, wo, wc, wh, ws, wv, rfl, hP⟩ := hR
  have B := yo_mk hw0 I hSa hP
  have fo := xs_fo I hSa
  obtain ⟨hbg, hhw, hv⟩ := hP.1.2 hb
  obtain ⟨j1, jr, j2, jn, jm, jk, j3, jt, jo, j4, jc, jK, jW⟩ := yp_in hw0 hq B fo.1 (Or.inr hst) hk (sg := 1) (by rw [hst])
  refine ⟨j1, nm_r jr ⟨j2, br_f jn ⟨j2, j2, nm_r jm ⟨j2, nm_r jk ⟨j3, nm_r jt ⟨j3, nm_r jo ⟨j4, ?_⟩⟩⟩⟩⟩⟩⟩
  rw [jK]
  refine br_f (by decide) ⟨j4, br_t (by decide) (br_f (by decide) (br_t (by decide) (br_f (by rw [hhw]; exact h0) (br_f (by rw [hhw]; exact h3) (br_t (by decide) (br_f (by rw [hhw]; exact h2) ?_))))))⟩
  exact yf_top (M' := M) (L2 := L) (post := post) (V' := V) (F' := F) (N' := N) (sp' := sp) (st' := G.1) (cl' := G.2.1) (gy' := G.2.2.1) B (fun _ _ z => z) pk_us (fun r h => pk_un h) (fun z => z) (yf_ms hb ⟨hbg, hhw, hv⟩) hp
theorem yg_w1t (hw0 : gw_S w) (hq : yq_S w q) (I : gk_I w M S (a :: A') V F G nc sp) (hR : yr_R w q E M S (a :: A') V F G N sp v) (hSa : S a = f :: L) (hb : M.1 = false) (hh : M.2.1 = 0) (hst : f.2.1 = 1) (hk : gw_K w f.1 = 14) (h5 : M.2.2.1 = 0 ∨ M.2.2.1 = 1 ∨ M.2.2.1 = 2 ∨ M.2.2.1 = 3 ∨ M.2.2.1 = 4) (ht : gk_tr M.2.2.1 M.2.2.2 = true) (hm : M'.1 = true)
    (hp : ∀ v', yr_R w q E M' (gk_su S a ((gw_c w f.1 1, 0, f.2.2.1, e0, s0, n0) :: (f.1, 2, f.2.2.1, k1, k2, k3) :: L)) (a :: A') V F G N sp v' → post v') : wpY_pass post v := by
  obtain ⟨bg, tk, ch, hw, so, va, gb, gh, ro, mn, wt, wo, wc, wh, ws, wv, rfl, hP⟩ := hR
  have B := yo_mk hw0 I hSa hP
  have fo := xs_fo I hSa
  obtain ⟨hbg, hhw, hv⟩ := hP.1.2 hb
  obtain ⟨j1, jr, j2, jn, jm, jk, j3, jt, jo, j4, jc, jK, jW⟩ := yp_in hw0 hq B fo.1 (Or.inl hst) hk (sg := 0) (by rw [hst])
  have ho : gw_o w f.1 = 2 := by rw [hw0.2.2.2.1 _ fo.1, hk]; decide
  have hvv := hv (Or.inl hh)
  refine ⟨j1, nm_r jr ⟨j2, br_f jn ⟨j2, j2, nm_r jm ⟨j2, nm_r jk ⟨j3, nm_r jt ⟨j3, nm_r jo ⟨j4, ?_⟩⟩⟩⟩⟩⟩⟩
  rw [jK]
  refine br_f (by decide) ⟨j4, br_t (by decide) (br_t (by decide) (br_t (hhw.trans hh) ?_))⟩
  refine ym_true hvv.1 hvv.2 h5 ?_
  rw [if_pos ht]
  refine br_f (by decide) ⟨j3, ?_⟩
  rw [jc]
  exact yf_await (o := 1) hw0 hq B fo.1 (by omega) (by decide) pk_us (fun r h => pk_un h) (fun _ z => absurd hk z) rfl rfl hm hp
theorem yg_w1f (hw0 : gw_S w) (hq : yq_S w q) (I : gk_I w M S (a :: A') V F G nc sp) (hR : yr_R w q E M S (a :: A') V F G N sp v) (hSa : S a = f :: L) (hb : M.1 = false) (hh : M.2.1 = 0) (hst : f.2.1 = 1) (hk : gw_K w f.1 = 14) (h5 : M.2.2.1 = 0 ∨ M.2.2.1 = 1 ∨ M.2.2.1 = 2 ∨ M.2.2.1 = 3 ∨ M.2.2.1 = 4) (ht : ¬ gk_tr M.2.2.1 M.2.2.2 = true)
    (hp : ∀ v', yr_R w q E (false, 0, 0, 0) (gk_su S a L) (a :: A') V F G N sp v' → post v') : wpY_pass post v := by
  obtain ⟨bg, tk, ch, hw, so, va, gb, gh, ro, mn, wt, wo, wc, wh, ws, wv, rfl, hP⟩ := hR
  have B := yo_mk hw0 I hSa hP
  have fo := xs_fo I hSa
  obtain ⟨hbg, hhw, hv⟩ := hP.1.2 hb
  obtain ⟨j1, jr, j2, jn, jm, jk, j3, jt, jo, j4, jc, jK, jW⟩ := yp_in hw0 hq B fo.1 (Or.inl hst) hk (sg := 0) (by rw [hst])
  have hvv := hv (Or.inl hh)
  refine ⟨j1, nm_r jr ⟨j2, br_f jn ⟨j2, j2, nm_r jm ⟨j2, nm_r jk ⟨j3, nm_r jt ⟨j3, nm_r jo ⟨j4, ?_⟩⟩⟩⟩⟩⟩⟩
  rw [jK]
  refine br_f (by decide) ⟨j4, br_t (by decide) (br_t (by decide) (br_t (hhw.trans hh) ?_))⟩
  refine ym_true hvv.1 hvv.2 h5 ?_
  rw [if_neg ht]
  refine br_t (by decide) ?_
  exact yf_top (M' := (false, 0, 0, 0)) (L2 := L) (post := post) (V' := V) (F' := F) (N' := N) (sp' := sp) (st' := G.1) (cl' := G.2.1) (gy' := G.2.2.1) B (fun _ _ z => z) pk_us (fun r h => pk_un h) (fun z => z) yf_me hp
theorem yg_w2 (hw0 : gw_S w) (hq : yq_S w q) (I : gk_I w M S (a :: A') V F G nc sp) (hR : yr_R w q E M S (a :: A') V F G N sp v) (hSa : S a = f :: L) (hb : M.1 = false) (hh : M.2.1 = 0 ∨ M.2.1 = 3) (hst : f.2.1 = 2) (hk : gw_K w f.1 = 14) (hm : M'.1 = true)
    (hp : ∀ v', yr_R w q E M' (gk_su S a ((gw_c w f.1 0, 0, f.2.2.1, e0, s0, n0) :: (f.1, 1, f.2.2.1, k1, k2, k3) :: L)) (a :: A') V F G N sp v' → post v') : wpY_pass post v := by
  obtain ⟨bg, tk, ch, hw, so, va, gb, gh, ro, mn, wt, wo, wc, wh, ws, wv, rfl, hP⟩ := hR
  have B := yo_mk hw0 I hSa hP
  have fo := xs_fo I hSa
  obtain ⟨hbg, hhw, hv⟩ := hP.1.2 hb
  obtain ⟨j1, jr, j2, jn, jm, jk, j3, jt, jo, j4, jc, jK, jW⟩ := yp_in hw0 hq B fo.1 (Or.inr hst) hk (sg := 1) (by rw [hst])
  have ho : gw_o w f.1 = 2 := by rw [hw0.2.2.2.1 _ fo.1, hk]; decide
  refine ⟨j1, nm_r jr ⟨j2, br_f jn ⟨j2, j2, nm_r jm ⟨j2, nm_r jk ⟨j3, nm_r jt ⟨j3, nm_r jo ⟨j4, ?_⟩⟩⟩⟩⟩⟩⟩
  rw [jK]
  refine br_f (by decide) ⟨j4, br_t (by decide) (br_f (by decide) (br_t (by decide) ?_))⟩
  rcases hh with hh | hh
  · refine br_t (hhw.trans hh) ⟨j3, ?_⟩
    rw [jc]
    exact yf_await (o := 0) hw0 hq B fo.1 (by omega) (by decide) pk_us (fun r h => pk_un h) (fun _ z => absurd hk z) rfl rfl hm hp
  · refine br_f (by rw [hhw, hh]; decide) (br_t (hhw.trans hh) ⟨j3, ?_⟩)
    rw [jc]
    exact yf_await (o := 0) hw0 hq B fo.1 (by omega) (by decide) pk_us (fun r h => pk_un h) (fun _ z => absurd hk z) rfl rfl hm hp
theorem yg_w2b (hw0 : gw_S w) (hq : yq_S w q) (I : gk_I w M S (a :: A') V F G nc sp) (hR : yr_R w q E M S (a :: A') V F G N sp v) (hSa : S a = f :: L) (hb : M.1 = false) (hh : M.2.1 = 2) (hst : f.2.1 = 2) (hk : gw_K w f.1 = 14)
    (hp : ∀ v', yr_R w q E (false, 0, 0, 0) (gk_su S a L) (a :: A') V F G N sp v' → post v') : wpY_pass post v := by
  obtain ⟨bg, tk, ch, hw, so, va, gb, gh, ro, mn, wt, wo, wc, wh, ws, wv, rfl, hP⟩ := hR
  have B := yo_mk hw0 I hSa hP
  have fo := xs_fo I hSa
  obtain ⟨hbg, hhw, hv⟩ := hP.1.2 hb
  obtain ⟨j1, jr, j2, jn, jm, jk, j3, jt, jo, j4, jc, jK, jW⟩ := yp_in hw0 hq B fo.1 (Or.inr hst) hk (sg := 1) (by rw [hst])
  refine ⟨j1, nm_r jr ⟨j2, br_f jn ⟨j2, j2, nm_r jm ⟨j2, nm_r jk ⟨j3, nm_r jt ⟨j3, nm_r jo ⟨j4, ?_⟩⟩⟩⟩⟩⟩⟩
  rw [jK]
  refine br_f (by decide) ⟨j4, br_t (by decide) (br_f (by decide) (br_t (by decide) (br_f (by rw [hhw, hh]; decide) (br_f (by rw [hhw, hh]; decide) (br_t (by decide) (br_t (hhw.trans hh) ?_))))))⟩
  exact yf_top (M' := (false, 0, 0, 0)) (L2 := L) (post := post) (V' := V) (F' := F) (N' := N) (sp' := sp) (st' := G.1) (cl' := G.2.1) (gy' := G.2.2.1) B (fun _ _ z => z) pk_us (fun r h => pk_un h) (fun z => z) yf_me hp
theorem yg_pn (hw0 : gw_S w) (hq : yq_S w q) (I : gk_I w M S (a :: A') V F G nc sp) (hR : yr_R w q E M S (a :: A') V F G N sp v) (hSa : S a = f :: L) (hb : M.1 = false) (hh : M.2.1 ≠ 0) (hst : f.2.1 = 1 ∨ f.2.1 = 2) (h14 : gw_K w f.1 ≠ 14) (h21 : gw_K w f.1 ≠ 21) (h20 : M.2.1 = 1 → gw_K w f.1 ≠ 20)
    (hp : ∀ v', yr_R w q E M (gk_su S a L) (a :: A') V F G N sp v' → post v') : wpY_pass post v := by
  obtain ⟨bg, tk, ch, hw, so, va, gb, gh, ro, mn, wt, wo, wc, wh, ws, wv, rfl, hP⟩ := hR
  have B := yo_mk hw0 I hSa hP
  have fo := xs_fo I hSa
  obtain ⟨hbg, hhw, hv⟩ := hP.1.2 hb
  obtain ⟨j1, jr, j2, jn, jm, jk, j3, jt, jo, j4, jc, jK, jW⟩ := yp_in hw0 hq B fo.1 hst rfl rfl
  refine ⟨j1, nm_r jr ⟨j2, br_f jn ⟨j2, j2, nm_r jm ⟨j2, nm_r jk ⟨j3, nm_r jt ⟨j3, nm_r jo ⟨j4, ?_⟩⟩⟩⟩⟩⟩⟩
  rw [jK]
  refine br_f h21 ⟨j4, br_f h14 (br_c (fun z => ⟨j4, br_f (h20 (hhw.symm.trans z)) (br_f (by rw [hhw]; exact hh) ?_)⟩) (fun z => br_f (by rw [hhw]; exact hh) ?_))⟩
  · exact yf_top (M' := M) (L2 := L) (post := post) (V' := V) (F' := F) (N' := N) (sp' := sp) (st' := G.1) (cl' := G.2.1) (gy' := G.2.2.1) B (fun _ _ z => z) pk_us (fun r h => pk_un h) (fun z => z) (yf_ms hb ⟨hbg, hhw, hv⟩) hp
  · exact yf_top (M' := M) (L2 := L) (post := post) (V' := V) (F' := F) (N' := N) (sp' := sp) (st' := G.1) (cl' := G.2.1) (gy' := G.2.2.1) B (fun _ _ z => z) pk_us (fun r h => pk_un h) (fun z => z) (yf_ms hb ⟨hbg, hhw, hv⟩) hp
theorem yg_vc (I : gk_I w M S (a :: A') V F G nc sp) : V.2.2.2.2 ≤ 600 ∧ F.2.2 ≤ 600 ∧ G.2.2.2 ≤ 8 := xg_vc I
theorem yg_try (hw0 : gw_S w) (hq : yq_S w q) (I : gk_I w M S (a :: A') V F G nc sp) (hR : yr_R w q E M S (a :: A') V F G N sp v) (hSa : S a = f :: L) (hb : M.1 = false) (hh : M.2.1 = 1) (hst : f.2.1 = 1) (hk : gw_K w f.1 = 20) (hm : M'.1 = true)
    (hp : ∀ v', yr_R w q E M' (gk_su S a ((gw_c w f.1 1, 0, nI V.2.2.2.2, e0, s0, n0) :: (f.1, 3, f.2.2.1, k1, k2, k3) :: L)) (a :: A') (gk_bd V (nI f.1) f.2.2.1 M.2.2.1 M.2.2.2) F G N sp v' → post v') : wpY_pass post v := by
  obtain ⟨bg, tk, ch, hw, so, va, gb, gh, ro, mn, wt, wo, wc, wh, ws, wv, rfl, hP⟩ := hR
  have B := yo_mk hw0 I hSa hP
  have fo := xs_fo I hSa
  obtain ⟨hbg, hhw, hv⟩ := hP.1.2 hb
  obtain ⟨j1, jr, j2, jn, jm, jk, j3, jt, jo, j4, jc, jK, jW⟩ := yp_in hw0 hq B fo.1 (Or.inl hst) hk (sg := 0) (by rw [hst])
  have ho : gw_o w f.1 = 2 := by rw [hw0.2.2.2.1 _ fo.1, hk]; decide
  obtain ⟨rfl, rfl⟩ := hv (Or.inr (Or.inl hh))
  have hp1 := yp_p1 hw0 hq fo.1 (by omega)
  refine ⟨j1, nm_r jr ⟨j2, br_f jn ⟨j2, j2, nm_r jm ⟨j2, nm_r jk ⟨j3, nm_r jt ⟨j3, nm_r jo ⟨j4, ?_⟩⟩⟩⟩⟩⟩⟩
  rw [jK]
  refine br_f (by decide) ⟨j4, br_f (by decide) (br_t (hhw.trans hh) ⟨j4, br_t (by decide) ⟨j3, ?_⟩⟩)⟩
  rw [jc]
  refine ym_bind (v := V.2.2.2.2) rfl (xg_vlt I hSa (Or.inl hst)) ⟨hp1.1, ?_⟩
  rw [hp1.2]
  exact yf_top (M' := M') (L2 := (gw_c w f.1 1, 0, nI V.2.2.2.2, e0, s0, n0) :: (f.1, 3, f.2.2.1, k1, k2, k3) :: L) (post := post) (V' := gk_bd V (nI f.1) f.2.2.1 M.2.2.1 M.2.2.2) (F' := F) (N' := N) (sp' := sp) (st' := G.1) (cl' := G.2.1) (gy' := G.2.2.1) B (fun _ _ z => z) pk_us (fun r h => pk_un h) (fun z => ⟨gk_0y, gk_3y, z⟩) (yf_mb hm) hp
end
end
section
theorem ym_eag0 {posti : Int32 → Prop} : ∀ k, k < 27 → ¬ gk_eag (nI k) → posti 0 → wpY_isEager posti (nI k) := by
  intro k hk hn h
  have c : k = 0 ∨ k = 1 ∨ k = 2 ∨ k = 3 ∨ k = 4 ∨ k = 5 ∨ k = 6 ∨ k = 7 ∨ k = 8 ∨ k = 9 ∨ k = 10 ∨ k = 11 ∨ k = 12 ∨ k = 13 ∨ k = 14 ∨ k = 15 ∨ k = 16 ∨ k = 17 ∨ k = 18 ∨ k = 19 ∨ k = 20 ∨ k = 21 ∨ k = 22 ∨ k = 23 ∨ k = 24 ∨ k = 25 ∨ k = 26 := by omega
  rcases c with rfl | rfl | rfl | rfl | rfl | rfl | rfl | rfl | rfl | rfl | rfl | rfl | rfl | rfl | rfl | rfl | rfl | rfl | rfl | rfl | rfl | rfl | rfl | rfl | rfl | rfl | rfl
  all_goals
    first
    | exact absurd (show gk_eag _ by unfold gk_eag; decide) hn
    | (unfold wpY_isEager wY_isEager_12
       repeat (first | (refine br_f (by decide) ?_) | (refine br_t (by decide) ?_))
       exact h)
theorem yo_u3 {G : gg_T} {g : Nat} {s : Int32} (hs : s ≠ 0) : ∀ i, i < G.2.2.2 → upd G.1 g s i = 0 → G.1 i = 0 := by
  intro i _ z
  by_cases e : i = g
  · subst e
    rw [pk_us] at z
    exact absurd z hs
  · rw [pk_un e] at z
    exact z
theorem yo_lv {g gc a : Nat} {A' : List Nat} (hg : g < gc) : ∀ s, gk_lv ((8 + g) :: a :: A') gc s → s ≠ a → gk_lv (a :: A') gc s := by
  intro s hs _
  rcases hs with h | h
  · rcases List.mem_cons.mp h with h | h
    · exact Or.inr (by omega)
    · exact Or.inl h
  · exact Or.inr h
theorem ym_eag1 {posti : Int32 → Prop} {k : Int32} (hk : gk_eag k) (h : posti 1) : wpY_isEager posti k := by
  rcases hk with rfl | rfl | rfl | rfl | rfl | rfl | rfl | rfl
  all_goals
    unfold wpY_isEager wY_isEager_12
    repeat (first | (refine br_f (by decide) ?_) | (refine br_t (by decide) ?_))
    exact h
section
variable {w : gw_T} {q : yq_T} {E : ye_T} {M M' : gm_T} {S : Nat → List gf_T} {a : Nat} {A' : List Nat} {V : gv_T} {F : gp_T} {G : gg_T} {N : gn_T} {nc sp : Nat} {v : SY} {f : gf_T} {L : List gf_T} {post : SY → Prop}
variable {e0 s0 k1 k2 : Int32} {n0 k3 : Int64}
theorem yg_pt0 (hw0 : gw_S w) (hq : yq_S w q) (I : gk_I w M S (a :: A') V F G nc sp) (hR : yr_R w q E M S (a :: A') V F G N sp v) (hSa : S a = f :: L) (hb : M.1 = false) (hh : M.2.1 = 0) (hst : f.2.1 = 1) (hk : gw_K w f.1 = 20) (hp : ∀ v', yr_R w q E M (gk_su S a L) (a :: A') V F G N sp v' → post v') : wpY_pass post v := by
  obtain ⟨bg, tk, ch, hw, so, va, gb, gh, ro, mn, wt, wo, wc, wh, ws, wv, rfl, hP⟩ := hR
  have B := yo_mk hw0 I hSa hP
  have fo := xs_fo I hSa
  obtain ⟨hbg, hhw, hv⟩ := hP.1.2 hb
  obtain ⟨j1, jr, j2, jn, jm, jk, j3, jt, jo, j4, jc, jK, jW⟩ := yp_in hw0 hq B fo.1 (Or.inl hst) hk (sg := 0) (by rw [hst])
  refine ⟨j1, nm_r jr ⟨j2, br_f jn ⟨j2, j2, nm_r jm ⟨j2, nm_r jk ⟨j3, nm_r jt ⟨j3, nm_r jo ⟨j4, ?_⟩⟩⟩⟩⟩⟩⟩
  rw [jK]
  refine br_f (by decide) ⟨j4, br_f (by decide) (br_f (by rw [hhw, hh]; decide) (br_t (hhw.trans hh) (br_t (by decide) ⟨j4, ?_⟩)))⟩
  rw [jK]
  refine ym_eag0 20 (by decide) (by unfold gk_eag; decide) (br_t (by decide) (br_t (by decide) ?_))
  refine ⟨j3, nm_r jc ⟨j4, nm_r jK ?_⟩⟩
  repeat (refine br_f (by decide) ?_)
  refine br_t (by decide) ?_
  exact yf_top (M' := M) (L2 := L) (post := post) (V' := V) (F' := F) (N' := N) (sp' := sp) (st' := G.1) (cl' := G.2.1) (gy' := G.2.2.1) B (fun _ _ z => z) pk_us (fun r h => pk_un h) (fun z => z) (yf_ms hb ⟨hbg, hhw, hv⟩) hp
theorem yg_eag (hw0 : gw_S w) (hq : yq_S w q) (I : gk_I w M S (a :: A') V F G nc sp) (hR : yr_R w q E M S (a :: A') V F G N sp v) (hSa : S a = f :: L) (hb : M.1 = false) (hh : M.2.1 = 0) (hst : f.2.1 = 1) (hk0 : gk_eag (gw_K w f.1)) (hm : M'.1 = true)
    (hp : ∀ v', yr_R w q E M' (gk_su S a ((gw_c w f.1 1, 0, f.2.2.1, e0, s0, n0) :: (f.1, 2, f.2.2.1, M.2) :: L)) (a :: A') V F G N sp v' → post v') : wpY_pass post v := by
  obtain ⟨bg, tk, ch, hw, so, va, gb, gh, ro, mn, wt, wo, wc, wh, ws, wv, rfl, hP⟩ := hR
  have B := yo_mk hw0 I hSa hP
  have fo := xs_fo I hSa
  obtain ⟨hbg, hhw, hv⟩ := hP.1.2 hb
  have h14 : gw_K w f.1 ≠ 14 := by
    intro z; rw [z] at hk0; exact absurd hk0 (by unfold gk_eag; decide)
  have h21 : gw_K w f.1 ≠ 21 := by
    intro z; rw [z] at hk0; exact absurd hk0 (by unfold gk_eag; decide)
  have ho : gw_o w f.1 = 2 := by
    rw [hw0.2.2.2.1 _ fo.1]
    rcases hk0 with z | z | z | z | z | z | z | z <;> (rw [z]; decide)
  obtain ⟨j1, jr, j2, jn, jm, jk, j3, jt, jo, j4, jc, jK, jW⟩ := yp_in hw0 hq B fo.1 (Or.inl hst) rfl (sg := 0) (by rw [hst])
  refine ⟨j1, nm_r jr ⟨j2, br_f jn ⟨j2, j2, nm_r jm ⟨j2, nm_r jk ⟨j3, nm_r jt ⟨j3, nm_r jo ⟨j4, ?_⟩⟩⟩⟩⟩⟩⟩
  rw [jK]
  refine br_f h21 ⟨j4, br_f h14 (br_f (by rw [hhw, hh]; decide) (br_t (hhw.trans hh) (br_t (by decide) ⟨j4, ?_⟩)))⟩
  rw [jK]
  refine ym_eag1 hk0 (br_f (by decide) ⟨j3, ?_⟩)
  rw [jc]
  exact yf_await (o := 1) hw0 hq B fo.1 (by omega) (by decide) pk_us (fun r h => pk_un h) (fun _ _ => ⟨hhw, hv⟩) rfl rfl hm hp
theorem yg_set (hw0 : gw_S w) (hq : yq_S w q) (I : gk_I w M S (a :: A') V F G nc sp) (hR : yr_R w q E M S (a :: A') V F G N sp v) (hSa : S a = f :: L) (hb : M.1 = false) (hh : M.2.1 = 0) (hst : f.2.1 = 1) (hk : gw_K w f.1 = 3) {b : Nat} (hbs : b ∈ gw_sc w f.1) (hmn : gw_mn w f.1 = nI b)
    (hp : ∀ v', yr_R w q E (false, 0, M.2.2) (gk_su S a L) (a :: A') (gk_st V (gk_fi V b (gw_sc w f.1) f.2.2.1) M.2.2.1 M.2.2.2) F G N sp v' → post v') : wpY_pass post v := by
  obtain ⟨bg, tk, ch, hw, so, va, gb, gh, ro, mn, wt, wo, wc, wh, ws, wv, rfl, hP⟩ := hR
  have B := yo_mk hw0 I hSa hP
  have fo := xs_fo I hSa
  obtain ⟨hbg, hhw, hv⟩ := hP.1.2 hb
  obtain ⟨j1, jr, j2, jn, jm, jk, j3, jt, jo, j4, jc, jK, jW⟩ := yp_in hw0 hq B fo.1 (Or.inl hst) hk (sg := 0) (by rw [hst])
  have hvc := xg_vc I
  have hn := hw0.2.2.1
  have hsc := hw0.2.2.2.2.2.2.2.2.2.2.2 f.1 fo.1
  have hb48 : b < 48 := by have := hsc.2 b hbs; have := fo.1; omega
  have hfi := gk_fil (b := b) (by omega) _ _ fo.2.1 hbs
  have jM : q.2.2.2.2.2.2.2.2.2.2.2.2.1 (nI f.1).toNatClampNeg = nI b := by
    rw [nI_clamp (by have := fo.1; omega), ← hmn]
    exact (hq.1 f.1 fo.1).2.2.1
  obtain ⟨rfl, rfl⟩ := hv (Or.inl hh)
  refine ⟨j1, nm_r jr ⟨j2, br_f jn ⟨j2, j2, nm_r jm ⟨j2, nm_r jk ⟨j3, nm_r jt ⟨j3, nm_r jo ⟨j4, ?_⟩⟩⟩⟩⟩⟩⟩
  rw [jK]
  refine br_f (by decide) ⟨j4, br_f (by decide) (br_f (by rw [hhw, hh]; decide) (br_t (hhw.trans hh) (br_t (by decide) ⟨j4, ?_⟩)))⟩
  rw [jK]
  refine ym_eag0 3 (by decide) (by unfold gk_eag; decide) (br_t (by decide) (br_t (by decide) ?_))
  refine ⟨j3, nm_r jc ⟨j4, nm_r jK ?_⟩⟩
  repeat (refine br_f (by decide) ?_)
  refine br_t (by decide) ⟨j4, ?_⟩
  rw [jM]
  refine ym_find hvc.1 hb48 rfl rfl fo.2.1 hbs (fun x hx => by have := hsc.2 x hx; have := fo.1; omega) ?_
  have i7 : vp_in (nI (gk_fi V b (gw_sc w f.1) f.2.2.1)) 700 := vp_in_nI (by omega) (by decide)
  have e6 : (nI (gk_fi V b (gw_sc w f.1) f.2.2.1)).toNatClampNeg = gk_fi V b (gw_sc w f.1) f.2.2.1 := nI_clamp (by omega)
  refine ⟨i7, nm_r (by rw [e6]) ⟨i7, nm_r (by rw [e6]) ?_⟩⟩
  exact yf_top (M' := (false, 0, M.2.2)) (L2 := L) (post := post) (V' := gk_st V (gk_fi V b (gw_sc w f.1) f.2.2.1) M.2.2.1 M.2.2.2) (F' := F) (N' := N) (sp' := sp) (st' := G.1) (cl' := G.2.1) (gy' := G.2.2.1) B (fun _ _ z => z) pk_us (fun r h => pk_un h) (fun z => z) ⟨fun z => (by cases z), fun _ => ⟨hbg, hhw.trans hh, fun _ => ⟨rfl, rfl⟩⟩⟩ hp
theorem yg_let (hw0 : gw_S w) (hq : yq_S w q) (I : gk_I w M S (a :: A') V F G nc sp) (hR : yr_R w q E M S (a :: A') V F G N sp v) (hSa : S a = f :: L) (hb : M.1 = false) (hh : M.2.1 = 0) (hst : f.2.1 = 1) (hk : gw_K w f.1 = 4) (hm : M'.1 = true)
    (hp : ∀ v', yr_R w q E M' (gk_su S a ((gw_c w f.1 1, 0, nI V.2.2.2.2, e0, s0, n0) :: (f.1, 3, f.2.2.1, k1, k2, k3) :: L)) (a :: A') (gk_bd V (nI f.1) f.2.2.1 M.2.2.1 M.2.2.2) F G N sp v' → post v') : wpY_pass post v := by
  obtain ⟨bg, tk, ch, hw, so, va, gb, gh, ro, mn, wt, wo, wc, wh, ws, wv, rfl, hP⟩ := hR
  have B := yo_mk hw0 I hSa hP
  have fo := xs_fo I hSa
  obtain ⟨hbg, hhw, hv⟩ := hP.1.2 hb
  obtain ⟨j1, jr, j2, jn, jm, jk, j3, jt, jo, j4, jc, jK, jW⟩ := yp_in hw0 hq B fo.1 (Or.inl hst) hk (sg := 0) (by rw [hst])
  have ho : gw_o w f.1 = 2 := by rw [hw0.2.2.2.1 _ fo.1, hk]; decide
  obtain ⟨rfl, rfl⟩ := hv (Or.inl hh)
  have hp1 := yp_p1 hw0 hq fo.1 (by omega)
  refine ⟨j1, nm_r jr ⟨j2, br_f jn ⟨j2, j2, nm_r jm ⟨j2, nm_r jk ⟨j3, nm_r jt ⟨j3, nm_r jo ⟨j4, ?_⟩⟩⟩⟩⟩⟩⟩
  rw [jK]
  refine br_f (by decide) ⟨j4, br_f (by decide) (br_f (by rw [hhw, hh]; decide) (br_t (hhw.trans hh) (br_t (by decide) ⟨j4, ?_⟩)))⟩
  rw [jK]
  refine ym_eag0 4 (by decide) (by unfold gk_eag; decide) (br_t (by decide) (br_t (by decide) ?_))
  refine ⟨j3, nm_r jc ⟨j4, nm_r jK ?_⟩⟩
  repeat (refine br_f (by decide) ?_)
  refine br_t (by decide) ?_
  refine ym_bind (v := V.2.2.2.2) rfl (xg_vlt I hSa (Or.inl hst)) ⟨hp1.1, ?_⟩
  rw [hp1.2]
  exact yf_top (M' := M') (L2 := (gw_c w f.1 1, 0, nI V.2.2.2.2, e0, s0, n0) :: (f.1, 3, f.2.2.1, k1, k2, k3) :: L) (post := post) (V' := gk_bd V (nI f.1) f.2.2.1 M.2.2.1 M.2.2.2) (F' := F) (N' := N) (sp' := sp) (st' := G.1) (cl' := G.2.1) (gy' := G.2.2.1) B (fun _ _ z => z) pk_us (fun r h => pk_un h) (fun z => ⟨gk_0y, gk_3y, z⟩) (yf_mb hm) hp
theorem yg_if (hw0 : gw_S w) (hq : yq_S w q) (I : gk_I w M S (a :: A') V F G nc sp) (hR : yr_R w q E M S (a :: A') V F G N sp v) (hSa : S a = f :: L) (hb : M.1 = false) (hh : M.2.1 = 0) (hst : f.2.1 = 1) (hk : gw_K w f.1 = 13) (h5 : M.2.2.1 = 0 ∨ M.2.2.1 = 1 ∨ M.2.2.1 = 2 ∨ M.2.2.1 = 3 ∨ M.2.2.1 = 4) (hm : M'.1 = true)
    (hp : ∀ v', yr_R w q E M' (gk_su S a ((gw_c w f.1 (if gk_tr M.2.2.1 M.2.2.2 = true then 1 else 2), 0, f.2.2.1, e0, s0, n0) :: (f.1, 3, f.2.2.1, k1, k2, k3) :: L)) (a :: A') V F G N sp v' → post v') : wpY_pass post v := by
  obtain ⟨bg, tk, ch, hw, so, va, gb, gh, ro, mn, wt, wo, wc, wh, ws, wv, rfl, hP⟩ := hR
  have B := yo_mk hw0 I hSa hP
  have fo := xs_fo I hSa
  obtain ⟨hbg, hhw, hv⟩ := hP.1.2 hb
  obtain ⟨j1, jr, j2, jn, jm, jk, j3, jt, jo, j4, jc, jK, jW⟩ := yp_in hw0 hq B fo.1 (Or.inl hst) hk (sg := 0) (by rw [hst])
  have ho : gw_o w f.1 = 3 := by rw [hw0.2.2.2.1 _ fo.1, hk]; decide
  have hvv := hv (Or.inl hh)
  have hp1 := yp_p1 hw0 hq fo.1 (by omega)
  have hp2 := yp_p2 hw0 hq fo.1 (by omega)
  refine ⟨j1, nm_r jr ⟨j2, br_f jn ⟨j2, j2, nm_r jm ⟨j2, nm_r jk ⟨j3, nm_r jt ⟨j3, nm_r jo ⟨j4, ?_⟩⟩⟩⟩⟩⟩⟩
  rw [jK]
  refine br_f (by decide) ⟨j4, br_f (by decide) (br_f (by rw [hhw, hh]; decide) (br_t (hhw.trans hh) (br_t (by decide) ⟨j4, ?_⟩)))⟩
  rw [jK]
  refine ym_eag0 13 (by decide) (by unfold gk_eag; decide) (br_t (by decide) (br_t (by decide) ?_))
  refine ⟨j3, nm_r jc ⟨j4, nm_r jK ?_⟩⟩
  repeat (refine br_f (by decide) ?_)
  refine br_t (by decide) ?_
  refine ym_true hvv.1 hvv.2 h5 ?_
  by_cases ht : gk_tr M.2.2.1 M.2.2.2 = true
  · rw [if_pos ht] at hp ⊢
    refine br_f (by decide) ⟨hp1.1, ?_⟩
    rw [hp1.2]
    exact yf_top (M' := M') (L2 := (gw_c w f.1 1, 0, f.2.2.1, e0, s0, n0) :: (f.1, 3, f.2.2.1, k1, k2, k3) :: L) (post := post) (V' := V) (F' := F) (N' := N) (sp' := sp) (st' := G.1) (cl' := G.2.1) (gy' := G.2.2.1) B (fun _ _ z => z) pk_us (fun r h => pk_un h) (fun z => ⟨gk_0y, gk_3y, z⟩) (yf_mb hm) hp
  · rw [if_neg ht] at hp ⊢
    refine br_t (by decide) ⟨hp2.1, ?_⟩
    rw [hp2.2]
    exact yf_top (M' := M') (L2 := (gw_c w f.1 2, 0, f.2.2.1, e0, s0, n0) :: (f.1, 3, f.2.2.1, k1, k2, k3) :: L) (post := post) (V' := V) (F' := F) (N' := N) (sp' := sp) (st' := G.1) (cl' := G.2.1) (gy' := G.2.2.1) B (fun _ _ z => z) pk_us (fun r h => pk_un h) (fun z => ⟨gk_0y, gk_3y, z⟩) (yf_mb hm) hp
theorem yg_seq (hw0 : gw_S w) (hq : yq_S w q) (I : gk_I w M S (a :: A') V F G nc sp) (hR : yr_R w q E M S (a :: A') V F G N sp v) (hSa : S a = f :: L) (hb : M.1 = false) (hh : M.2.1 = 0) (hst : f.2.1 = 1) (hk : gw_K w f.1 = 15) (hm : M'.1 = true)
    (hp : ∀ v', yr_R w q E M' (gk_su S a ((gw_c w f.1 1, 0, f.2.2.1, e0, s0, n0) :: (f.1, 3, f.2.2.1, k1, k2, k3) :: L)) (a :: A') V F G N sp v' → post v') : wpY_pass post v := by
  obtain ⟨bg, tk, ch, hw, so, va, gb, gh, ro, mn, wt, wo, wc, wh, ws, wv, rfl, hP⟩ := hR
  have B := yo_mk hw0 I hSa hP
  have fo := xs_fo I hSa
  obtain ⟨hbg, hhw, hv⟩ := hP.1.2 hb
  obtain ⟨j1, jr, j2, jn, jm, jk, j3, jt, jo, j4, jc, jK, jW⟩ := yp_in hw0 hq B fo.1 (Or.inl hst) hk (sg := 0) (by rw [hst])
  have ho : gw_o w f.1 = 2 := by rw [hw0.2.2.2.1 _ fo.1, hk]; decide
  have hp1 := yp_p1 hw0 hq fo.1 (by omega)
  refine ⟨j1, nm_r jr ⟨j2, br_f jn ⟨j2, j2, nm_r jm ⟨j2, nm_r jk ⟨j3, nm_r jt ⟨j3, nm_r jo ⟨j4, ?_⟩⟩⟩⟩⟩⟩⟩
  rw [jK]
  refine br_f (by decide) ⟨j4, br_f (by decide) (br_f (by rw [hhw, hh]; decide) (br_t (hhw.trans hh) (br_t (by decide) ⟨j4, ?_⟩)))⟩
  rw [jK]
  refine ym_eag0 15 (by decide) (by unfold gk_eag; decide) (br_t (by decide) (br_t (by decide) ?_))
  refine ⟨j3, nm_r jc ⟨j4, nm_r jK ?_⟩⟩
  repeat (refine br_f (by decide) ?_)
  refine br_t (by decide) ⟨hp1.1, ?_⟩
  rw [hp1.2]
  exact yf_top (M' := M') (L2 := (gw_c w f.1 1, 0, f.2.2.1, e0, s0, n0) :: (f.1, 3, f.2.2.1, k1, k2, k3) :: L) (post := post) (V' := V) (F' := F) (N' := N) (sp' := sp) (st' := G.1) (cl' := G.2.1) (gy' := G.2.2.1) B (fun _ _ z => z) pk_us (fun r h => pk_un h) (fun z => ⟨gk_0y, gk_3y, z⟩) (yf_mb hm) hp
theorem yg_ret (hw0 : gw_S w) (hq : yq_S w q) (I : gk_I w M S (a :: A') V F G nc sp) (hR : yr_R w q E M S (a :: A') V F G N sp v) (hSa : S a = f :: L) (hb : M.1 = false) (hh : M.2.1 = 0) (hst : f.2.1 = 1) (hk : gw_K w f.1 = 18)
    (hp : ∀ v', yr_R w q E (false, 4, M.2.2) (gk_su S a L) (a :: A') V F G N sp v' → post v') : wpY_pass post v := by
  obtain ⟨bg, tk, ch, hw, so, va, gb, gh, ro, mn, wt, wo, wc, wh, ws, wv, rfl, hP⟩ := hR
  have B := yo_mk hw0 I hSa hP
  have fo := xs_fo I hSa
  obtain ⟨hbg, hhw, hv⟩ := hP.1.2 hb
  obtain ⟨j1, jr, j2, jn, jm, jk, j3, jt, jo, j4, jc, jK, jW⟩ := yp_in hw0 hq B fo.1 (Or.inl hst) hk (sg := 0) (by rw [hst])
  have hvv := hv (Or.inl hh)
  refine ⟨j1, nm_r jr ⟨j2, br_f jn ⟨j2, j2, nm_r jm ⟨j2, nm_r jk ⟨j3, nm_r jt ⟨j3, nm_r jo ⟨j4, ?_⟩⟩⟩⟩⟩⟩⟩
  rw [jK]
  refine br_f (by decide) ⟨j4, br_f (by decide) (br_f (by rw [hhw, hh]; decide) (br_t (hhw.trans hh) (br_t (by decide) ⟨j4, ?_⟩)))⟩
  rw [jK]
  refine ym_eag0 18 (by decide) (by unfold gk_eag; decide) (br_t (by decide) (br_t (by decide) ?_))
  refine ⟨j3, nm_r jc ⟨j4, nm_r jK ?_⟩⟩
  repeat (refine br_f (by decide) ?_)
  refine br_t (by decide) ?_
  exact yf_top (M' := (false, 4, M.2.2)) (L2 := L) (post := post) (V' := V) (F' := F) (N' := N) (sp' := sp) (st' := G.1) (cl' := G.2.1) (gy' := G.2.2.1) B (fun _ _ z => z) pk_us (fun r h => pk_un h) (fun z => z) ⟨fun z => (by cases z), fun _ => ⟨hbg, rfl, fun _ => hvv⟩⟩ hp
theorem yg_thr (hw0 : gw_S w) (hq : yq_S w q) (I : gk_I w M S (a :: A') V F G nc sp) (hR : yr_R w q E M S (a :: A') V F G N sp v) (hSa : S a = f :: L) (hb : M.1 = false) (hh : M.2.1 = 0) (hst : f.2.1 = 1) (hk : gw_K w f.1 = 19)
    (hp : ∀ v', yr_R w q E (false, 1, M.2.2) (gk_su S a L) (a :: A') V F G N sp v' → post v') : wpY_pass post v := by
  obtain ⟨bg, tk, ch, hw, so, va, gb, gh, ro, mn, wt, wo, wc, wh, ws, wv, rfl, hP⟩ := hR
  have B := yo_mk hw0 I hSa hP
  have fo := xs_fo I hSa
  obtain ⟨hbg, hhw, hv⟩ := hP.1.2 hb
  obtain ⟨j1, jr, j2, jn, jm, jk, j3, jt, jo, j4, jc, jK, jW⟩ := yp_in hw0 hq B fo.1 (Or.inl hst) hk (sg := 0) (by rw [hst])
  have hvv := hv (Or.inl hh)
  refine ⟨j1, nm_r jr ⟨j2, br_f jn ⟨j2, j2, nm_r jm ⟨j2, nm_r jk ⟨j3, nm_r jt ⟨j3, nm_r jo ⟨j4, ?_⟩⟩⟩⟩⟩⟩⟩
  rw [jK]
  refine br_f (by decide) ⟨j4, br_f (by decide) (br_f (by rw [hhw, hh]; decide) (br_t (hhw.trans hh) (br_t (by decide) ⟨j4, ?_⟩)))⟩
  rw [jK]
  refine ym_eag0 19 (by decide) (by unfold gk_eag; decide) (br_t (by decide) (br_t (by decide) ?_))
  refine ⟨j3, nm_r jc ⟨j4, nm_r jK ?_⟩⟩
  repeat (refine br_f (by decide) ?_)
  refine br_t (by decide) ?_
  exact yf_top (M' := (false, 1, M.2.2)) (L2 := L) (post := post) (V' := V) (F' := F) (N' := N) (sp' := sp) (st' := G.1) (cl' := G.2.1) (gy' := G.2.2.1) B (fun _ _ z => z) pk_us (fun r h => pk_un h) (fun z => z) ⟨fun z => (by cases z), fun _ => ⟨hbg, rfl, fun _ => hvv⟩⟩ hp
theorem yg_yt (hw0 : gw_S w) (hq : yq_S w q) (I : gk_I w M S (a :: A') V F G nc sp) (hR : yr_R w q E M S (a :: A') V F G N sp v) (hSa : S a = f :: L) (hb : M.1 = false) (hh : M.2.1 = 0) (hst : f.2.1 = 1) (hk : gw_K w f.1 = 22) {g : Nat} (hag : a = 8 + g) (hg : g < G.2.2.2) (hc : G.2.1 g = 1)
    (hp : ∀ v', yr_R w q E (false, 1, 1, (-4 : Int32).toInt64) (gk_su S a L) (a :: A') V F G N sp v' → post v') : wpY_pass post v := by
  obtain ⟨bg, tk, ch, hw, so, va, gb, gh, ro, mn, wt, wo, wc, wh, ws, wv, rfl, hP⟩ := hR
  have B := yo_mk hw0 I hSa hP
  have fo := xs_fo I hSa
  obtain ⟨hbg, hhw, hv⟩ := hP.1.2 hb
  obtain ⟨j1, jr, j2, jn, jm, jk, j3, jt, jo, j4, jc, jK, jW⟩ := yp_in hw0 hq B fo.1 (Or.inl hst) hk (sg := 0) (by rw [hst])
  have hvc := xg_vc I
  have er : nI (yr_row a) = nI g := by rw [hag, yr_rg]
  have egc : (nI g).toNatClampNeg = g := nI_clamp (by omega)
  have ig : vp_in (nI g) 8 := vp_in_nI (by omega) (by decide)
  refine ⟨j1, nm_r jr ⟨j2, br_f jn ⟨j2, j2, nm_r jm ⟨j2, nm_r jk ⟨j3, nm_r jt ⟨j3, nm_r jo ⟨j4, ?_⟩⟩⟩⟩⟩⟩⟩
  rw [jK]
  refine br_f (by decide) ⟨j4, br_f (by decide) (br_f (by rw [hhw, hh]; decide) (br_t (hhw.trans hh) (br_t (by decide) ⟨j4, ?_⟩)))⟩
  rw [jK]
  refine ym_eag0 22 (by decide) (by unfold gk_eag; decide) (br_t (by decide) (br_t (by decide) ?_))
  refine ⟨j3, nm_r jc ⟨j4, nm_r jK ?_⟩⟩
  repeat (refine br_f (by decide) ?_)
  refine br_t (by decide) ⟨j1, nm_r (jr.trans er) ⟨ig, br_f (by rw [egc, hc]; decide) ?_⟩⟩
  exact yf_top (M' := (false, 1, 1, (-4 : Int32).toInt64)) (L2 := L) (post := post) (V' := V) (F' := F) (N' := N) (sp' := sp) (st' := G.1) (cl' := G.2.1) (gy' := G.2.2.1) B (fun _ _ z => z) pk_us (fun r h => pk_un h) (fun z => z) yf_me hp
theorem yg_yw (hw0 : gw_S w) (hq : yq_S w q) (I : gk_I w M S (a :: A') V F G nc sp) (hR : yr_R w q E M S (a :: A') V F G N sp v) (hSa : S a = f :: L) (hb : M.1 = false) (hh : M.2.1 = 0) (hst : f.2.1 = 1) (hk : gw_K w f.1 = 22) {g : Nat} (hag : a = 8 + g) (hg : g < G.2.2.2) (hc : G.2.1 g = 0)
    (hp : ∀ v', yr_R w q E M (gk_su S a ((f.1, 3, f.2.2) :: L)) A' V F (upd G.1 g 1, G.2.1, upd G.2.2.1 g (nI f.1), G.2.2.2) N sp v' → post v') : wpY_pass post v := by
  obtain ⟨bg, tk, ch, hw, so, va, gb, gh, ro, mn, wt, wo, wc, wh, ws, wv, rfl, hP⟩ := hR
  have B := yo_mk hw0 I hSa hP
  have fo := xs_fo I hSa
  obtain ⟨hbg, hhw, hv⟩ := hP.1.2 hb
  obtain ⟨j1, jr, j2, jn, jm, jk, j3, jt, jo, j4, jc, jK, jW⟩ := yp_in hw0 hq B fo.1 (Or.inl hst) hk (sg := 0) (by rw [hst])
  have hvc := xg_vc I
  have er : nI (yr_row a) = nI g := by rw [hag, yr_rg]
  have egc : (nI g).toNatClampNeg = g := nI_clamp (by omega)
  have ig : vp_in (nI g) 8 := vp_in_nI (by omega) (by decide)
  refine ⟨j1, nm_r jr ⟨j2, br_f jn ⟨j2, j2, nm_r jm ⟨j2, nm_r jk ⟨j3, nm_r jt ⟨j3, nm_r jo ⟨j4, ?_⟩⟩⟩⟩⟩⟩⟩
  rw [jK]
  refine br_f (by decide) ⟨j4, br_f (by decide) (br_f (by rw [hhw, hh]; decide) (br_t (hhw.trans hh) (br_t (by decide) ⟨j4, ?_⟩)))⟩
  rw [jK]
  refine ym_eag0 22 (by decide) (by unfold gk_eag; decide) (br_t (by decide) (br_t (by decide) ?_))
  refine ⟨j3, nm_r jc ⟨j4, nm_r jK ?_⟩⟩
  repeat (refine br_f (by decide) ?_)
  refine br_t (by decide) ⟨j1, nm_r (jr.trans er) ⟨ig, br_t (by rw [egc, hc]) ⟨ig, nm_r (e' := upd G.1 g 1) (by rw [egc]) ⟨ig, nm_r (e' := upd G.2.2.1 g (nI f.1)) (by rw [egc]) (nm_r (e' := nI A'.length) (nI_pred _) ?_)⟩⟩⟩⟩
  refine hp _ ⟨bg, tk, ch, hw, so, va, gb, gh, ro, _, wt, wo, wc, wh, ws, wv, rfl, yf_ms hb ⟨hbg, hhw, hv⟩, B.2.2.2.2.1.2, yr_flat (mn' := upd mn (yr_row a) (nI (gk_yl L))) B.2.2.2.2.2.1 B.1 (Or.inl (List.mem_cons_self ..)) B.2.2.1 (fun s h _ => xe_lv s h) B.2.2.2.1 pk_us (fun r h => pk_un h) (fun z => ⟨gk_3y, z⟩), yo_g B ?_⟩
  intro i hi z
  have z2 : upd G.1 g 1 i = 0 := z
  by_cases e : i = g
  · subst e
    rw [pk_us] at z2
    exact absurd z2 (by decide)
  · rw [pk_un e] at z2
    exact z2
theorem yg_done3 (hw0 : gw_S w) (hq : yq_S w q) (I : gk_I w M S (a :: A') V F G nc sp) (hR : yr_R w q E M S (a :: A') V F G N sp v) (hSa : S a = f :: L) (hb : M.1 = false) (hh : M.2.1 = 0) (hst : f.2.1 = 1) (hk : gw_K w f.1 = 24) (hs : M.2.2.1 ≠ 4)
    (hp : ∀ v', yr_R w q E (false, 1, 1, (-3 : Int32).toInt64) (gk_su S a L) (a :: A') V F G N sp v' → post v') : wpY_pass post v := by
  obtain ⟨bg, tk, ch, hw, so, va, gb, gh, ro, mn, wt, wo, wc, wh, ws, wv, rfl, hP⟩ := hR
  have B := yo_mk hw0 I hSa hP
  have fo := xs_fo I hSa
  obtain ⟨hbg, hhw, hv⟩ := hP.1.2 hb
  obtain ⟨j1, jr, j2, jn, jm, jk, j3, jt, jo, j4, jc, jK, jW⟩ := yp_in hw0 hq B fo.1 (Or.inl hst) hk (sg := 0) (by rw [hst])
  have hvv := hv (Or.inl hh)
  refine ⟨j1, nm_r jr ⟨j2, br_f jn ⟨j2, j2, nm_r jm ⟨j2, nm_r jk ⟨j3, nm_r jt ⟨j3, nm_r jo ⟨j4, ?_⟩⟩⟩⟩⟩⟩⟩
  rw [jK]
  refine br_f (by decide) ⟨j4, br_f (by decide) (br_f (by rw [hhw, hh]; decide) (br_t (hhw.trans hh) (br_t (by decide) ⟨j4, ?_⟩)))⟩
  rw [jK]
  refine ym_eag0 24 (by decide) (by unfold gk_eag; decide) (br_t (by decide) (br_t (by decide) ?_))
  refine ⟨j3, nm_r jc ⟨j4, nm_r jK ?_⟩⟩
  repeat (refine br_f (by decide) ?_)
  refine br_t (by decide) (br_f (by rw [hvv.1]; exact hs) ?_)
  exact yf_top (M' := (false, 1, 1, (-3 : Int32).toInt64)) (L2 := L) (post := post) (V' := V) (F' := F) (N' := N) (sp' := sp) (st' := G.1) (cl' := G.2.1) (gy' := G.2.2.1) B (fun _ _ z => z) pk_us (fun r h => pk_un h) (fun z => z) yf_me hp
theorem yg_done (hw0 : gw_S w) (hq : yq_S w q) (I : gk_I w M S (a :: A') V F G nc sp) (hR : yr_R w q E M S (a :: A') V F G N sp v) (hSa : S a = f :: L) (hb : M.1 = false) (hh : M.2.1 = 0) (hst : f.2.1 = 1) (hk : gw_K w f.1 = 24) {g : Nat} (hg : g < G.2.2.2) (hs : M.2.2.1 = 4) (hx : M.2.2.2 = lN g)
    (hp : ∀ v', yr_R w q E (false, 0, 1, (if G.1 g = 3 then 1 else 0)) (gk_su S a L) (a :: A') V F G N sp v' → post v') : wpY_pass post v := by
  obtain ⟨bg, tk, ch, hw, so, va, gb, gh, ro, mn, wt, wo, wc, wh, ws, wv, rfl, hP⟩ := hR
  have B := yo_mk hw0 I hSa hP
  have fo := xs_fo I hSa
  obtain ⟨hbg, hhw, hv⟩ := hP.1.2 hb
  obtain ⟨j1, jr, j2, jn, jm, jk, j3, jt, jo, j4, jc, jK, jW⟩ := yp_in hw0 hq B fo.1 (Or.inl hst) hk (sg := 0) (by rw [hst])
  have hvc := xg_vc I
  have hvv := hv (Or.inl hh)
  have ev : va.toInt32 = nI g := by rw [hvv.2, hx, lN_i]
  have egc : (nI g).toNatClampNeg = g := nI_clamp (by omega)
  have ig : vp_in va.toInt32 8 := by rw [ev]; exact vp_in_nI (by omega) (by decide)
  refine ⟨j1, nm_r jr ⟨j2, br_f jn ⟨j2, j2, nm_r jm ⟨j2, nm_r jk ⟨j3, nm_r jt ⟨j3, nm_r jo ⟨j4, ?_⟩⟩⟩⟩⟩⟩⟩
  rw [jK]
  refine br_f (by decide) ⟨j4, br_f (by decide) (br_f (by rw [hhw, hh]; decide) (br_t (hhw.trans hh) (br_t (by decide) ⟨j4, ?_⟩)))⟩
  rw [jK]
  refine ym_eag0 24 (by decide) (by unfold gk_eag; decide) (br_t (by decide) (br_t (by decide) ?_))
  refine ⟨j3, nm_r jc ⟨j4, nm_r jK ?_⟩⟩
  repeat (refine br_f (by decide) ?_)
  refine br_t (by decide) (br_t (by rw [hvv.1]; exact hs) ⟨j4, br_f (by rw [jK]; decide) ⟨ig, ?_⟩⟩)
  rw [ev, egc]
  by_cases z : G.1 g = 3
  · rw [if_pos z] at hp
    refine br_t z ?_
    exact yf_top (M' := (false, 0, 1, 1)) (L2 := L) (post := post) (V' := V) (F' := F) (N' := N) (sp' := sp) (st' := G.1) (cl' := G.2.1) (gy' := G.2.2.1) B (fun _ _ z => z) pk_us (fun r h => pk_un h) (fun z => z) yf_me hp
  · rw [if_neg z] at hp
    refine br_f z ?_
    exact yf_top (M' := (false, 0, 1, 0)) (L2 := L) (post := post) (V' := V) (F' := F) (N' := N) (sp' := sp) (st' := G.1) (cl' := G.2.1) (gy' := G.2.2.1) B (fun _ _ z => z) pk_us (fun r h => pk_un h) (fun z => z) yf_me hp
theorem yg_cl3 (hw0 : gw_S w) (hq : yq_S w q) (I : gk_I w M S (a :: A') V F G nc sp) (hR : yr_R w q E M S (a :: A') V F G N sp v) (hSa : S a = f :: L) (hb : M.1 = false) (hh : M.2.1 = 0) (hst : f.2.1 = 1) (hk : gw_K w f.1 = 25) (hs : M.2.2.1 ≠ 4)
    (hp : ∀ v', yr_R w q E (false, 1, 1, (-3 : Int32).toInt64) (gk_su S a L) (a :: A') V F G N sp v' → post v') : wpY_pass post v := by
  obtain ⟨bg, tk, ch, hw, so, va, gb, gh, ro, mn, wt, wo, wc, wh, ws, wv, rfl, hP⟩ := hR
  have B := yo_mk hw0 I hSa hP
  have fo := xs_fo I hSa
  obtain ⟨hbg, hhw, hv⟩ := hP.1.2 hb
  obtain ⟨j1, jr, j2, jn, jm, jk, j3, jt, jo, j4, jc, jK, jW⟩ := yp_in hw0 hq B fo.1 (Or.inl hst) hk (sg := 0) (by rw [hst])
  have hvv := hv (Or.inl hh)
  refine ⟨j1, nm_r jr ⟨j2, br_f jn ⟨j2, j2, nm_r jm ⟨j2, nm_r jk ⟨j3, nm_r jt ⟨j3, nm_r jo ⟨j4, ?_⟩⟩⟩⟩⟩⟩⟩
  rw [jK]
  refine br_f (by decide) ⟨j4, br_f (by decide) (br_f (by rw [hhw, hh]; decide) (br_t (hhw.trans hh) (br_t (by decide) ⟨j4, ?_⟩)))⟩
  rw [jK]
  refine ym_eag0 25 (by decide) (by unfold gk_eag; decide) (br_t (by decide) (br_t (by decide) ?_))
  refine ⟨j3, nm_r jc ⟨j4, nm_r jK ?_⟩⟩
  repeat (refine br_f (by decide) ?_)
  refine br_t (by decide) (br_f (by rw [hvv.1]; exact hs) ?_)
  exact yf_top (M' := (false, 1, 1, (-3 : Int32).toInt64)) (L2 := L) (post := post) (V' := V) (F' := F) (N' := N) (sp' := sp) (st' := G.1) (cl' := G.2.1) (gy' := G.2.2.1) B (fun _ _ z => z) pk_us (fun r h => pk_un h) (fun z => z) yf_me hp
theorem yg_clE (hw0 : gw_S w) (hq : yq_S w q) (I : gk_I w M S (a :: A') V F G nc sp) (hR : yr_R w q E M S (a :: A') V F G N sp v) (hSa : S a = f :: L) (hb : M.1 = false) (hh : M.2.1 = 0) (hst : f.2.1 = 1) (hk : gw_K w f.1 = 25) {g : Nat} (hg : g < G.2.2.2) (hs : M.2.2.1 = 4) (hx : M.2.2.2 = lN g) (h03 : G.1 g = 0 ∨ G.1 g = 3)
    (hp : ∀ v', yr_R w q E (false, 0, 0, 0) (gk_su S a L) (a :: A') V F (upd G.1 g 3, G.2.1, G.2.2.1, G.2.2.2) N sp v' → post v') : wpY_pass post v := by
  obtain ⟨bg, tk, ch, hw, so, va, gb, gh, ro, mn, wt, wo, wc, wh, ws, wv, rfl, hP⟩ := hR
  have B := yo_mk hw0 I hSa hP
  have fo := xs_fo I hSa
  obtain ⟨hbg, hhw, hv⟩ := hP.1.2 hb
  obtain ⟨j1, jr, j2, jn, jm, jk, j3, jt, jo, j4, jc, jK, jW⟩ := yp_in hw0 hq B fo.1 (Or.inl hst) hk (sg := 0) (by rw [hst])
  have hvc := xg_vc I
  have hvv := hv (Or.inl hh)
  have ev : va.toInt32 = nI g := by rw [hvv.2, hx, lN_i]
  have egc : (nI g).toNatClampNeg = g := nI_clamp (by omega)
  have ig : vp_in (nI g) 8 := vp_in_nI (by omega) (by decide)
  refine ⟨j1, nm_r jr ⟨j2, br_f jn ⟨j2, j2, nm_r jm ⟨j2, nm_r jk ⟨j3, nm_r jt ⟨j3, nm_r jo ⟨j4, ?_⟩⟩⟩⟩⟩⟩⟩
  rw [jK]
  refine br_f (by decide) ⟨j4, br_f (by decide) (br_f (by rw [hhw, hh]; decide) (br_t (hhw.trans hh) (br_t (by decide) ⟨j4, ?_⟩)))⟩
  rw [jK]
  refine ym_eag0 25 (by decide) (by unfold gk_eag; decide) (br_t (by decide) (br_t (by decide) ?_))
  refine ⟨j3, nm_r jc ⟨j4, nm_r jK ?_⟩⟩
  repeat (refine br_f (by decide) ?_)
  refine br_t (by decide) (br_t (by rw [hvv.1]; exact hs) ⟨j4, br_t jK ?_⟩)
  rw [ev]
  have n2 : ¬ G.1 (nI g).toNatClampNeg = 2 := by
    rw [egc]; rcases h03 with z | z <;> (rw [z]; decide)
  have n1 : ¬ G.1 (nI g).toNatClampNeg = 1 := by
    rw [egc]; rcases h03 with z | z <;> (rw [z]; decide)
  refine ⟨ig, br_f n2 ⟨ig, br_f n1 ⟨ig, br_f n1 ⟨ig, nm_r (e' := upd G.1 g 3) (by rw [egc]) ?_⟩⟩⟩⟩
  exact yf_top (M' := (false, 0, 0, 0)) (L2 := L) (post := post) (V' := V) (F' := F) (N' := N) (sp' := sp) (st' := upd G.1 g 3) (cl' := G.2.1) (gy' := G.2.2.1) B (yo_u3 (by decide)) pk_us (fun r h => pk_un h) (fun z => z) yf_me hp
theorem yg_clW (hw0 : gw_S w) (hq : yq_S w q) (I : gk_I w M S (a :: A') V F G nc sp) (hR : yr_R w q E M S (a :: A') V F G N sp v) (hSa : S a = f :: L) (hb : M.1 = false) (hh : M.2.1 = 0) (hst : f.2.1 = 1) (hk : gw_K w f.1 = 25) {g : Nat} (hg : g < G.2.2.2) (hs : M.2.2.1 = 4) (hx : M.2.2.2 = lN g) (h2 : G.1 g = 2)
    (hp : ∀ v', yr_R w q E (false, 1, 1, (-4 : Int32).toInt64) (gk_su S a L) (a :: A') V F G N sp v' → post v') : wpY_pass post v := by
  obtain ⟨bg, tk, ch, hw, so, va, gb, gh, ro, mn, wt, wo, wc, wh, ws, wv, rfl, hP⟩ := hR
  have B := yo_mk hw0 I hSa hP
  have fo := xs_fo I hSa
  obtain ⟨hbg, hhw, hv⟩ := hP.1.2 hb
  obtain ⟨j1, jr, j2, jn, jm, jk, j3, jt, jo, j4, jc, jK, jW⟩ := yp_in hw0 hq B fo.1 (Or.inl hst) hk (sg := 0) (by rw [hst])
  have hvc := xg_vc I
  have hvv := hv (Or.inl hh)
  have ev : va.toInt32 = nI g := by rw [hvv.2, hx, lN_i]
  have egc : (nI g).toNatClampNeg = g := nI_clamp (by omega)
  have ig : vp_in (nI g) 8 := vp_in_nI (by omega) (by decide)
  refine ⟨j1, nm_r jr ⟨j2, br_f jn ⟨j2, j2, nm_r jm ⟨j2, nm_r jk ⟨j3, nm_r jt ⟨j3, nm_r jo ⟨j4, ?_⟩⟩⟩⟩⟩⟩⟩
  rw [jK]
  refine br_f (by decide) ⟨j4, br_f (by decide) (br_f (by rw [hhw, hh]; decide) (br_t (hhw.trans hh) (br_t (by decide) ⟨j4, ?_⟩)))⟩
  rw [jK]
  refine ym_eag0 25 (by decide) (by unfold gk_eag; decide) (br_t (by decide) (br_t (by decide) ?_))
  refine ⟨j3, nm_r jc ⟨j4, nm_r jK ?_⟩⟩
  repeat (refine br_f (by decide) ?_)
  refine br_t (by decide) (br_t (by rw [hvv.1]; exact hs) ⟨j4, br_t jK ?_⟩)
  rw [ev]
  refine ⟨ig, br_t (by rw [egc, h2]) ?_⟩
  exact yf_top (M' := (false, 1, 1, (-4 : Int32).toInt64)) (L2 := L) (post := post) (V' := V) (F' := F) (N' := N) (sp' := sp) (st' := G.1) (cl' := G.2.1) (gy' := G.2.2.1) B (fun _ _ z => z) pk_us (fun r h => pk_un h) (fun z => z) yf_me hp
theorem yg_clF (hw0 : gw_S w) (hq : yq_S w q) (I : gk_I w M S (a :: A') V F G nc sp) (hR : yr_R w q E M S (a :: A') V F G N sp v) (hSa : S a = f :: L) (hb : M.1 = false) (hh : M.2.1 = 0) (hst : f.2.1 = 1) (hk : gw_K w f.1 = 25) {g : Nat} (hg : g < G.2.2.2) (hs : M.2.2.1 = 4) (hx : M.2.2.2 = lN g) (h2 : G.1 g = 1) (hd : ¬ A'.length + 1 < 8)
    (hp : ∀ v', yr_R w q E (false, 1, 1, (-5 : Int32).toInt64) (gk_su S a L) (a :: A') V F G N sp v' → post v') : wpY_pass post v := by
  obtain ⟨bg, tk, ch, hw, so, va, gb, gh, ro, mn, wt, wo, wc, wh, ws, wv, rfl, hP⟩ := hR
  have B := yo_mk hw0 I hSa hP
  have fo := xs_fo I hSa
  obtain ⟨hbg, hhw, hv⟩ := hP.1.2 hb
  obtain ⟨j1, jr, j2, jn, jm, jk, j3, jt, jo, j4, jc, jK, jW⟩ := yp_in hw0 hq B fo.1 (Or.inl hst) hk (sg := 0) (by rw [hst])
  have hvc := xg_vc I
  have hvv := hv (Or.inl hh)
  have ev : va.toInt32 = nI g := by rw [hvv.2, hx, lN_i]
  have egc : (nI g).toNatClampNeg = g := nI_clamp (by omega)
  have ig : vp_in (nI g) 8 := vp_in_nI (by omega) (by decide)
  refine ⟨j1, nm_r jr ⟨j2, br_f jn ⟨j2, j2, nm_r jm ⟨j2, nm_r jk ⟨j3, nm_r jt ⟨j3, nm_r jo ⟨j4, ?_⟩⟩⟩⟩⟩⟩⟩
  rw [jK]
  refine br_f (by decide) ⟨j4, br_f (by decide) (br_f (by rw [hhw, hh]; decide) (br_t (hhw.trans hh) (br_t (by decide) ⟨j4, ?_⟩)))⟩
  rw [jK]
  refine ym_eag0 25 (by decide) (by unfold gk_eag; decide) (br_t (by decide) (br_t (by decide) ?_))
  refine ⟨j3, nm_r jc ⟨j4, nm_r jK ?_⟩⟩
  repeat (refine br_f (by decide) ?_)
  refine br_t (by decide) (br_t (by rw [hvv.1]; exact hs) ⟨j4, br_t jK ?_⟩)
  rw [ev]
  have e8 : A'.length + 1 = 8 := by have := B.2.1; omega
  have h8 : nI (a :: A').length = 8 := by
    show nI (A'.length + 1) = 8
    rw [e8]
    rfl
  refine ⟨ig, br_f (by rw [egc, h2]; decide) ⟨ig, br_t (by rw [egc, h2]) (br_t h8 ?_)⟩⟩
  exact yf_top (M' := (false, 1, 1, (-5 : Int32).toInt64)) (L2 := L) (post := post) (V' := V) (F' := F) (N' := N) (sp' := sp) (st' := G.1) (cl' := G.2.1) (gy' := G.2.2.1) B (fun _ _ z => z) pk_us (fun r h => pk_un h) (fun z => z) yf_me hp
theorem yg_cl (hw0 : gw_S w) (hq : yq_S w q) (I : gk_I w M S (a :: A') V F G nc sp) (hR : yr_R w q E M S (a :: A') V F G N sp v) (hSa : S a = f :: L) (hb : M.1 = false) (hh : M.2.1 = 0) (hst : f.2.1 = 1) (hk : gw_K w f.1 = 25) {g : Nat} (hg : g < G.2.2.2) (hs : M.2.2.1 = 4) (hx : M.2.2.2 = lN g) (h2 : G.1 g = 1) (hd : A'.length + 1 < 8)
    (hp : ∀ v', yr_R w q E (false, 5, 0, 0) (gk_su S a ((f.1, 3, f.2.2) :: L)) ((8 + g) :: a :: A') V F (upd G.1 g 2, upd G.2.1 g 1, G.2.2.1, G.2.2.2) N sp v' → post v') : wpY_pass post v := by
  obtain ⟨bg, tk, ch, hw, so, va, gb, gh, ro, mn, wt, wo, wc, wh, ws, wv, rfl, hP⟩ := hR
  have B := yo_mk hw0 I hSa hP
  have fo := xs_fo I hSa
  obtain ⟨hbg, hhw, hv⟩ := hP.1.2 hb
  obtain ⟨j1, jr, j2, jn, jm, jk, j3, jt, jo, j4, jc, jK, jW⟩ := yp_in hw0 hq B fo.1 (Or.inl hst) hk (sg := 0) (by rw [hst])
  have hvc := xg_vc I
  have hvv := hv (Or.inl hh)
  have ev : va.toInt32 = nI g := by rw [hvv.2, hx, lN_i]
  have egc : (nI g).toNatClampNeg = g := nI_clamp (by omega)
  have ig : vp_in (nI g) 8 := vp_in_nI (by omega) (by decide)
  refine ⟨j1, nm_r jr ⟨j2, br_f jn ⟨j2, j2, nm_r jm ⟨j2, nm_r jk ⟨j3, nm_r jt ⟨j3, nm_r jo ⟨j4, ?_⟩⟩⟩⟩⟩⟩⟩
  rw [jK]
  refine br_f (by decide) ⟨j4, br_f (by decide) (br_f (by rw [hhw, hh]; decide) (br_t (hhw.trans hh) (br_t (by decide) ⟨j4, ?_⟩)))⟩
  rw [jK]
  refine ym_eag0 25 (by decide) (by unfold gk_eag; decide) (br_t (by decide) (br_t (by decide) ?_))
  refine ⟨j3, nm_r jc ⟨j4, nm_r jK ?_⟩⟩
  repeat (refine br_f (by decide) ?_)
  refine br_t (by decide) (br_t (by rw [hvv.1]; exact hs) ⟨j4, br_t jK ?_⟩)
  rw [ev]
  have h8 : ¬ nI (a :: A').length = 8 := by
    show ¬ nI (A'.length + 1) = nI 8
    rw [nI_eq (by omega) (by decide)]
    omega
  refine ⟨ig, br_f (by rw [egc, h2]; decide) ⟨ig, br_t (by rw [egc, h2]) (br_f h8 ⟨ig, br_t (by rw [egc, h2]) ⟨ig, nm_r (e' := upd G.1 g 2) (by rw [egc]) ⟨ig, nm_r (e' := upd G.2.1 g 1) (by rw [egc, ym_b1]) ?_⟩⟩⟩)⟩⟩
  refine ym_enterG (d := A'.length + 1) rfl (by omega) (by omega) ?_
  refine hp _ ⟨0, tk, ch, 5, 0, 0, gb, gh, _, _, wt, wo, wc, wh, ws, wv, rfl, yf_me, ⟨by rw [yr_rg]; exact pk_us, xr_Ac _ (fun j hj => pk_un (by have : j < A'.length + 1 := hj; omega)) B.2.2.2.2.1⟩, yr_flat (mn' := upd mn (yr_row a) (nI (gk_yl L))) B.2.2.2.2.2.1 B.1 (Or.inl (List.mem_cons_self ..)) B.2.2.1 (yo_lv hg) B.2.2.2.1 pk_us (fun r h => pk_un h) (fun z => ⟨gk_3y, z⟩), yo_g B (yo_u3 (by decide))⟩
theorem yg_shn {bg tk ch hw so : Int32} {va : Int64} {gb gh ro mn wt wo wc wh ws : Nat → Int32} {wv : Nat → Int64} {A : List Nat} {gc : Nat} {post : Int64 → Prop} {s : Int32} {x : Int64} (hf : F.2.2 ≤ 600) (hvv : gk_VV F.2.2 gc s x) (hp : post (gk_sh F s x)) :
    wpY_shown post (yr_t q E A V F G N sp bg tk ch hw so va gb gh ro mn wt wo wc wh ws wv) s x := by
  refine br_c (fun z => ?_) (fun z => ?_)
  · rw [gk_sh, if_pos z] at hp
    rcases hvv with h | ⟨_, i, hi, e⟩ | ⟨h, _⟩
    · rw [z] at h; exact absurd h (by decide)
    · refine ⟨?_, hp⟩
      rw [e, lN_i]
      exact vp_in_nI (by omega) (by decide)
    · rw [z] at h; exact absurd h (by decide)
  · rw [gk_sh, if_neg z] at hp
    exact hp
theorem yg_host (hw0 : gw_S w) (hq : yq_S w q) (I : gk_I w M S (a :: A') V F G nc sp) (hR : yr_R w q E M S (a :: A') V F G N sp v) (hSa : S a = f :: L) (hb : M.1 = false) (hh : M.2.1 = 0) (hst : f.2.1 = 1) (hk : gw_K w f.1 = 26) (hnc : N.2.2 ≤ 600) (hvv : gk_VV F.2.2 G.2.2.2 M.2.2.1 M.2.2.2)
    (hp : ∀ v', yr_R w q E (false, (if M.2.2.1 = 1 ∧ M.2.2.2 < 0 then 1 else 0), M.2.2) (gk_su S a L) (a :: A') V F G (gk_nt F N M.2.2.1 M.2.2.2) sp v' → post v') : wpY_pass post v := by
  obtain ⟨bg, tk, ch, hw, so, va, gb, gh, ro, mn, wt, wo, wc, wh, ws, wv, rfl, hP⟩ := hR
  have B := yo_mk hw0 I hSa hP
  have fo := xs_fo I hSa
  obtain ⟨hbg, hhw, hv⟩ := hP.1.2 hb
  obtain ⟨j1, jr, j2, jn, jm, jk, j3, jt, jo, j4, jc, jK, jW⟩ := yp_in hw0 hq B fo.1 (Or.inl hst) hk (sg := 0) (by rw [hst])
  have hvc := xg_vc I
  obtain ⟨rfl, rfl⟩ := hv (Or.inl hh)
  have fin : ∀ (ns : Nat → Int32) (nn : Nat → Int64), (ns, nn, N.2.2 + 1) = gk_nt F N M.2.2.1 M.2.2.2 →
      wY_note_43 post q.1 q.2.1 q.2.2.1 q.2.2.2.1 (nI V.2.2.2.2) (nI F.2.2) (nI G.2.2.2) (nI (a :: A').length) bg tk ch hw M.2.2.1 M.2.2.2 (nI sp) E.1 E.2.1 E.2.2.1 E.2.2.2 (nI N.2.2) q.2.2.2.2.1 q.2.2.2.2.2.1 q.2.2.2.2.2.2.1 q.2.2.2.2.2.2.2.1 q.2.2.2.2.2.2.2.2.1 q.2.2.2.2.2.2.2.2.2.1 q.2.2.2.2.2.2.2.2.2.2.1 q.2.2.2.2.2.2.2.2.2.2.2.1 q.2.2.2.2.2.2.2.2.2.2.2.2.1 q.2.2.2.2.2.2.2.2.2.2.2.2.2.1 q.2.2.2.2.2.2.2.2.2.2.2.2.2.2 V.1 V.2.1 V.2.2.1 V.2.2.2.1 F.1 F.2.1 G.1 gb gh G.2.2.1 G.2.1 ro (upd mn (yr_row a) (nI (gk_yl L))) wt wo wc ws wh wv ns nn := by
    intro ns nn e
    rw [← e] at hp
    refine nm_r (nI_1 N.2.2) (br_c (fun z => br_c (fun y => ?_) (fun y => ?_)) (fun z => ?_))
    · rw [if_neg (fun c => absurd c.2 (Int64.not_lt.mpr y))] at hp
      exact yf_top (M' := (false, 0, M.2.2)) (L2 := L) (post := post) (V' := V) (F' := F) (N' := (ns, nn, N.2.2 + 1)) (sp' := sp) (st' := G.1) (cl' := G.2.1) (gy' := G.2.2.1) B (fun _ _ z => z) pk_us (fun r h => pk_un h) (fun z => z) ⟨fun z => (by cases z), fun _ => ⟨hbg, hhw.trans hh, fun _ => ⟨rfl, rfl⟩⟩⟩ hp
    · rw [if_pos ⟨z, Int64.not_le.mp y⟩] at hp
      exact yf_top (M' := (false, 1, M.2.2)) (L2 := L) (post := post) (V' := V) (F' := F) (N' := (ns, nn, N.2.2 + 1)) (sp' := sp) (st' := G.1) (cl' := G.2.1) (gy' := G.2.2.1) B (fun _ _ z => z) pk_us (fun r h => pk_un h) (fun z => z) ⟨fun z => (by cases z), fun _ => ⟨hbg, rfl, fun _ => ⟨rfl, rfl⟩⟩⟩ hp
    · rw [if_neg (fun c => z c.1)] at hp
      exact yf_top (M' := (false, 0, M.2.2)) (L2 := L) (post := post) (V' := V) (F' := F) (N' := (ns, nn, N.2.2 + 1)) (sp' := sp) (st' := G.1) (cl' := G.2.1) (gy' := G.2.2.1) B (fun _ _ z => z) pk_us (fun r h => pk_un h) (fun z => z) ⟨fun z => (by cases z), fun _ => ⟨hbg, hhw.trans hh, fun _ => ⟨rfl, rfl⟩⟩⟩ hp
  refine ⟨j1, nm_r jr ⟨j2, br_f jn ⟨j2, j2, nm_r jm ⟨j2, nm_r jk ⟨j3, nm_r jt ⟨j3, nm_r jo ⟨j4, ?_⟩⟩⟩⟩⟩⟩⟩
  rw [jK]
  refine br_f (by decide) ⟨j4, br_f (by decide) (br_f (by rw [hhw, hh]; decide) (br_t (hhw.trans hh) (br_t (by decide) ⟨j4, ?_⟩)))⟩
  rw [jK]
  refine ym_eag0 26 (by decide) (by unfold gk_eag; decide) (br_t (by decide) (br_t (by decide) ?_))
  refine ⟨j3, nm_r jc ⟨j4, nm_r jK ?_⟩⟩
  repeat (refine br_f (by decide) ?_)
  refine br_t (by decide) ?_
  by_cases c : N.2.2 < 40
  · have i4 : vp_in (nI N.2.2) 40 := vp_in_nI c (by decide)
    have e4 : (nI N.2.2).toNatClampNeg = N.2.2 := nI_clamp (by omega)
    refine br_f (nI_ge (b := 40) c (by decide)) ⟨i4, nm_r (e' := upd N.1 N.2.2 M.2.2.1) (by rw [e4]) ?_⟩
    refine yg_shn (N := (upd N.1 N.2.2 M.2.2.1, N.2)) (gc := G.2.2.2) hvc.2.1 hvv ⟨i4, nm_r (e' := vp_updL N.2.1 N.2.2 (gk_sh F M.2.2.1 M.2.2.2)) (by rw [e4]) ?_⟩
    exact fin _ _ (by rw [gk_nt, if_pos c])
  · refine br_t (nI_le (a := 40) (by omega) (by omega)) ?_
    exact fin _ _ (by rw [gk_nt, if_neg c])
end
end
section
section
variable {f_drafted f_length f_place f_there f_chains f_functions f_generators f_active f_begins f_token f_chain f_how f_sort : Int32} {f_value : Int64} {f_steps f_endSort f_status : Int32} {f_endNumber : Int64} {f_over f_noted : Int32} {a_draftKind a_draftWith a_kind a_with a_above a_as a_part a_open a_means a_own a_yields a_binder a_outer a_holdsSort : Nat → Int32} {a_holds : Nat → Int64} {a_fnToken a_fnChain a_state a_gBody a_gChain a_gYield a_closing a_rowOf a_many a_wToken a_wOperand a_wChain a_wSort a_wHow : Nat → Int32} {a_wValue : Nat → Int64} {a_noteSort : Nat → Int32} {a_noteNumber : Nat → Int64}
theorem ym_19 {post : SY → Prop} {k x6 : Int32} {x y : Int64} (hk : gk_op4 k) (hy : k = 10 → y ≠ 0) (h1 : gk_ov k x y → ∀ r, wY_calculate_244 post x6 r 1 f_drafted f_length f_place f_there f_chains f_functions f_generators f_active f_begins f_token f_chain f_how f_sort f_value f_steps f_endSort f_status f_endNumber f_over f_noted a_draftKind a_draftWith a_kind a_with a_above a_as a_part a_open a_means a_own a_yields a_binder a_outer a_holdsSort a_holds a_fnToken a_fnChain a_state a_gBody a_gChain a_gYield a_closing a_rowOf a_many a_wToken a_wOperand a_wChain a_wSort a_wHow a_wValue a_noteSort a_noteNumber) (h0 : ¬ gk_ov k x y → wY_calculate_244 post x6 (gk_res k x y) 0 f_drafted f_length f_place f_there f_chains f_functions f_generators f_active f_begins f_token f_chain f_how f_sort f_value f_steps f_endSort f_status f_endNumber f_over f_noted a_draftKind a_draftWith a_kind a_with a_above a_as a_part a_open a_means a_own a_yields a_binder a_outer a_holdsSort a_holds a_fnToken a_fnChain a_state a_gBody a_gChain a_gYield a_closing a_rowOf a_many a_wToken a_wOperand a_wChain a_wSort a_wHow a_wValue a_noteSort a_noteNumber) : wY_calculate_19 post k x y x6 f_drafted f_length f_place f_there f_chains f_functions f_generators f_active f_begins f_token f_chain f_how f_sort f_value f_steps f_endSort f_status f_endNumber f_over f_noted a_draftKind a_draftWith a_kind a_with a_above a_as a_part a_open a_means a_own a_yields a_binder a_outer a_holdsSort a_holds a_fnToken a_fnChain a_state a_gBody a_gChain a_gYield a_closing a_rowOf a_many a_wToken a_wOperand a_wChain a_wSort a_wHow a_wValue a_noteSort a_noteNumber := by
  rcases hk with rfl | rfl | rfl | rfl
  · refine br_f (by decide) (br_f (by decide) (br_t rfl (nm_e (br_c (fun c => br_c (fun z => ?_) (fun z => ?_)) (fun c => br_c (fun z => ?_) (fun z => ?_))))))
    · refine h0 (fun o => ?_)
      exact Int64.not_lt.mpr z ((ca_addY2 x y (Int64.not_lt.mpr c)).mpr (ov_7.mp o))
    · exact h1 (ov_7.mpr ((ca_addY2 x y (Int64.not_lt.mpr c)).mp (Int64.not_le.mp z))) _
    · refine h0 (fun o => ?_)
      exact Int64.not_lt.mpr z ((ca_addY1 x y (Int64.not_le.mp c)).mpr (ov_7.mp o))
    · exact h1 (ov_7.mpr ((ca_addY1 x y (Int64.not_le.mp c)).mp (Int64.not_le.mp z))) _
  · refine br_f (by decide) (br_f (by decide) (br_f (by decide) (br_t rfl (nm_e (br_c (fun c => br_c (fun z => ?_) (fun z => ?_)) (fun c => br_c (fun z => ?_) (fun z => ?_)))))))
    · refine h0 (fun o => ?_)
      exact Int64.not_lt.mpr z ((ca_subY2 x y (Int64.not_lt.mpr c)).mpr (ov_8.mp o))
    · exact h1 (ov_8.mpr ((ca_subY2 x y (Int64.not_lt.mpr c)).mp (Int64.not_le.mp z))) _
    · refine h0 (fun o => ?_)
      exact Int64.not_lt.mpr z ((ca_subY1 x y (Int64.not_le.mp c)).mpr (ov_8.mp o))
    · exact h1 (ov_8.mpr ((ca_subY1 x y (Int64.not_le.mp c)).mp (Int64.not_le.mp z))) _
  · refine br_f (by decide) (br_f (by decide) (br_f (by decide) (br_f (by decide) (br_t rfl (nm_e (br_c (fun c => ?_) (fun c => br_c (fun d => br_c (fun e => br_c (fun z => ?_) (fun z => ?_)) (fun e => ?_)) (fun d => ⟨c, br_c (fun z => ?_) (fun z => ?_)⟩))))))))
    · subst c
      refine h0 (fun o => ?_)
      have o2 := ov_9.mp o
      rw [ca_0] at o2
      apply o2
      unfold ca_in
      omega
    · subst d
      refine h0 (fun o => ?_)
      exact Int64.not_lt.mpr z ((ca_mulYm y).mpr (ov_9.mp o)).2
    · subst d
      exact h1 (ov_9.mpr ((ca_mulYm y).mp ⟨e, Int64.not_le.mp z⟩)) _
    · subst d
      refine h0 (fun o => ?_)
      exact e ((ca_mulYm y).mpr (ov_9.mp o)).1
    · refine h0 (fun o => ?_)
      exact (ca_mulY x y c d).mpr (ov_9.mp o) z
    · exact h1 (ov_9.mpr ((ca_mulY x y c d).mp z)) _
  · have hy := hy rfl
    refine br_f (by decide) (br_t (by decide) (br_c (fun c => br_c (fun d => br_t rfl ⟨hy, ?_⟩) (fun d => br_c (fun e => br_f (by decide) ?_) (fun e => br_t rfl ⟨hy, ?_⟩))) (fun c => br_t rfl ⟨hy, ?_⟩)))
    · refine h0 (fun o => ?_)
      exact Int64.not_lt.mpr d (ov_10.mp o).2.1
    · exact h1 (ov_10.mpr ⟨c, Int64.not_le.mp d, e⟩) _
    · refine h0 (fun o => ?_)
      exact e (ov_10.mp o).2.2
    · refine h0 (fun o => ?_)
      exact c (ov_10.mp o).1
end
section
variable {w : gw_T} {q : yq_T} {E : ye_T} {M M' : gm_T} {S : Nat → List gf_T} {a : Nat} {A' : List Nat} {V : gv_T} {F : gp_T} {G : gg_T} {N : gn_T} {nc sp : Nat} {v : SY} {f : gf_T} {L : List gf_T} {post : SY → Prop}
variable {e0 s0 k1 k2 : Int32} {n0 k3 : Int64}
theorem yg_ap3 (hw0 : gw_S w) (hq : yq_S w q) (I : gk_I w M S (a :: A') V F G nc sp) (hR : yr_R w q E M S (a :: A') V F G N sp v) (hSa : S a = f :: L) (hb : M.1 = false) (hh : M.2.1 = 0) (hst : f.2.1 = 2) (hk : gw_K w f.1 = 6) (hs : f.2.2.2.2.1 ≠ 3)
    (hp : ∀ v', yr_R w q E (false, 1, 1, (-3 : Int32).toInt64) (gk_su S a L) (a :: A') V F G N sp v' → post v') : wpY_pass post v := by
  obtain ⟨bg, tk, ch, hw, so, va, gb, gh, ro, mn, wt, wo, wc, wh, ws, wv, rfl, hP⟩ := hR
  have B := yo_mk hw0 I hSa hP
  have fo := xs_fo I hSa
  obtain ⟨hbg, hhw, hv⟩ := hP.1.2 hb
  obtain ⟨j1, jr, j2, jn, jm, jk, j3, jt, jo, j4, jc, jK, jW⟩ := yp_in hw0 hq B fo.1 (Or.inr hst) hk (sg := 1) (by rw [hst])
  have hkp := (jW hst (by rw [hk]; decide)).2 (Or.inl ((fo.2.2.2.2.2.2 hst (by rw [hk]; decide)).2.2.2.2 (by rw [hk]; decide)))
  refine ⟨j1, nm_r jr ⟨j2, br_f jn ⟨j2, j2, nm_r jm ⟨j2, nm_r jk ⟨j3, nm_r jt ⟨j3, nm_r jo ⟨j4, ?_⟩⟩⟩⟩⟩⟩⟩
  rw [jK]
  refine br_f (by decide) ⟨j4, br_f (by decide) (br_f (by rw [hhw, hh]; decide) (br_t (hhw.trans hh) (br_f (by decide) (br_f (by decide) ⟨j3, j3, ?_⟩))))⟩
  rw [hkp.1, hkp.2]
  refine ⟨j4, ?_⟩
  rw [jK]
  refine br_t (by decide) (br_f hs ?_)
  exact yf_top (M' := (false, 1, 1, (-3 : Int32).toInt64)) (L2 := L) (post := post) (V' := V) (F' := F) (N' := N) (sp' := sp) (st' := G.1) (cl' := G.2.1) (gy' := G.2.2.1) B (fun _ _ z => z) pk_us (fun r h => pk_un h) (fun z => z) yf_me hp
theorem yg_apF (hw0 : gw_S w) (hq : yq_S w q) (I : gk_I w M S (a :: A') V F G nc sp) (hR : yr_R w q E M S (a :: A') V F G N sp v) (hSa : S a = f :: L) (hb : M.1 = false) (hh : M.2.1 = 0) (hst : f.2.1 = 2) (hk : gw_K w f.1 = 6) (hs : f.2.2.2.2.1 = 3) {i t : Nat} (hx : f.2.2.2.2.2 = lN i) (hi : i < F.2.2) (ht : t < gw_n w) (hft : F.1 i = nI t) (hg : gw_gn w t = 0) (hd : ¬ A'.length + 1 < 8)
    (hp : ∀ v', yr_R w q E (false, 1, 1, (-5 : Int32).toInt64) (gk_su S a L) (a :: A') V F G N sp v' → post v') : wpY_pass post v := by
  obtain ⟨bg, tk, ch, hw, so, va, gb, gh, ro, mn, wt, wo, wc, wh, ws, wv, rfl, hP⟩ := hR
  have B := yo_mk hw0 I hSa hP
  have fo := xs_fo I hSa
  obtain ⟨hbg, hhw, hv⟩ := hP.1.2 hb
  obtain ⟨j1, jr, j2, jn, jm, jk, j3, jt, jo, j4, jc, jK, jW⟩ := yp_in hw0 hq B fo.1 (Or.inr hst) hk (sg := 1) (by rw [hst])
  have hkp := (jW hst (by rw [hk]; decide)).2 (Or.inl ((fo.2.2.2.2.2.2 hst (by rw [hk]; decide)).2.2.2.2 (by rw [hk]; decide)))
  have hvc := xg_vc I
  have hn := hw0.2.2.1
  have ec : (nI i).toNatClampNeg = i := nI_clamp (by omega)
  have etc : (nI t).toNatClampNeg = t := nI_clamp (by omega)
  have i7 : vp_in (nI i) 700 := vp_in_nI (by omega) (by decide)
  have i4 : vp_in (nI t) 48 := vp_in_nI (by omega) (by decide)
  have ex : f.2.2.2.2.2.toInt32 = nI i := by rw [hx, lN_i]
  have eF : F.1 (nI i).toNatClampNeg = nI t := by rw [ec, hft]
  have eY : q.2.2.2.2.2.2.2.2.2.2.2.2.2.2 (nI t).toNatClampNeg = gw_gn w t := by rw [etc]; exact (hq.1 t ht).2.2.2
  refine ⟨j1, nm_r jr ⟨j2, br_f jn ⟨j2, j2, nm_r jm ⟨j2, nm_r jk ⟨j3, nm_r jt ⟨j3, nm_r jo ⟨j4, ?_⟩⟩⟩⟩⟩⟩⟩
  rw [jK]
  refine br_f (by decide) ⟨j4, br_f (by decide) (br_f (by rw [hhw, hh]; decide) (br_t (hhw.trans hh) (br_f (by decide) (br_f (by decide) ⟨j3, j3, ?_⟩))))⟩
  rw [hkp.1, hkp.2]
  refine ⟨j4, ?_⟩
  rw [jK]
  refine br_t (by decide) (br_t hs ?_)
  rw [ex]
  refine ⟨i7, nm_r eF ⟨i4, ?_⟩⟩
  rw [eY]
  have e8 : A'.length + 1 = 8 := by have := B.2.1; omega
  have h8 : nI (a :: A').length = 8 := by
    show nI (A'.length + 1) = 8
    rw [e8]
    rfl
  refine br_t hg (br_t h8 ⟨i4, br_t (by rw [eY, hg]) ?_⟩)
  exact yf_top (M' := (false, 1, 1, (-5 : Int32).toInt64)) (L2 := L) (post := post) (V' := V) (F' := F) (N' := N) (sp' := sp) (st' := G.1) (cl' := G.2.1) (gy' := G.2.2.1) B (fun _ _ z => z) pk_us (fun r h => pk_un h) (fun z => z) yf_me hp
theorem yg_apG (hw0 : gw_S w) (hq : yq_S w q) (I : gk_I w M S (a :: A') V F G nc sp) (hR : yr_R w q E M S (a :: A') V F G N sp v) (hSa : S a = f :: L) (hb : M.1 = false) (hh : M.2.1 = 0) (hst : f.2.1 = 2) (hk : gw_K w f.1 = 6) (hs : f.2.2.2.2.1 = 3) {i t : Nat} (hx : f.2.2.2.2.2 = lN i) (hi : i < F.2.2) (ht : t < gw_n w) (hft : F.1 i = nI t) (hg : gw_gn w t = 1) (hd : ¬ G.2.2.2 < 8)
    (hp : ∀ v', yr_R w q E (false, 1, 1, (-6 : Int32).toInt64) (gk_su S a L) (a :: A') V F G N sp v' → post v') : wpY_pass post v := by
  obtain ⟨bg, tk, ch, hw, so, va, gb, gh, ro, mn, wt, wo, wc, wh, ws, wv, rfl, hP⟩ := hR
  have B := yo_mk hw0 I hSa hP
  have fo := xs_fo I hSa
  obtain ⟨hbg, hhw, hv⟩ := hP.1.2 hb
  obtain ⟨j1, jr, j2, jn, jm, jk, j3, jt, jo, j4, jc, jK, jW⟩ := yp_in hw0 hq B fo.1 (Or.inr hst) hk (sg := 1) (by rw [hst])
  have hkp := (jW hst (by rw [hk]; decide)).2 (Or.inl ((fo.2.2.2.2.2.2 hst (by rw [hk]; decide)).2.2.2.2 (by rw [hk]; decide)))
  have hvc := xg_vc I
  have hn := hw0.2.2.1
  have ec : (nI i).toNatClampNeg = i := nI_clamp (by omega)
  have etc : (nI t).toNatClampNeg = t := nI_clamp (by omega)
  have i7 : vp_in (nI i) 700 := vp_in_nI (by omega) (by decide)
  have i4 : vp_in (nI t) 48 := vp_in_nI (by omega) (by decide)
  have ex : f.2.2.2.2.2.toInt32 = nI i := by rw [hx, lN_i]
  have eF : F.1 (nI i).toNatClampNeg = nI t := by rw [ec, hft]
  have eY : q.2.2.2.2.2.2.2.2.2.2.2.2.2.2 (nI t).toNatClampNeg = gw_gn w t := by rw [etc]; exact (hq.1 t ht).2.2.2
  refine ⟨j1, nm_r jr ⟨j2, br_f jn ⟨j2, j2, nm_r jm ⟨j2, nm_r jk ⟨j3, nm_r jt ⟨j3, nm_r jo ⟨j4, ?_⟩⟩⟩⟩⟩⟩⟩
  rw [jK]
  refine br_f (by decide) ⟨j4, br_f (by decide) (br_f (by rw [hhw, hh]; decide) (br_t (hhw.trans hh) (br_f (by decide) (br_f (by decide) ⟨j3, j3, ?_⟩))))⟩
  rw [hkp.1, hkp.2]
  refine ⟨j4, ?_⟩
  rw [jK]
  refine br_t (by decide) (br_t hs ?_)
  rw [ex]
  refine ⟨i7, nm_r eF ⟨i4, ?_⟩⟩
  rw [eY]
  have h8 : nI G.2.2.2 = 8 := by
    rw [show G.2.2.2 = 8 by omega]
    rfl
  refine br_f (by rw [hg]; decide) (br_t h8 ⟨i4, br_f (by rw [eY, hg]; decide) ?_⟩)
  exact yf_top (M' := (false, 1, 1, (-6 : Int32).toInt64)) (L2 := L) (post := post) (V' := V) (F' := F) (N' := N) (sp' := sp) (st' := G.1) (cl' := G.2.1) (gy' := G.2.2.1) B (fun _ _ z => z) pk_us (fun r h => pk_un h) (fun z => z) yf_me hp
theorem yg_ap (hw0 : gw_S w) (hq : yq_S w q) (I : gk_I w M S (a :: A') V F G nc sp) (hR : yr_R w q E M S (a :: A') V F G N sp v) (hSa : S a = f :: L) (hb : M.1 = false) (hh : M.2.1 = 0) (hst : f.2.1 = 2) (hk : gw_K w f.1 = 6) (hs : f.2.2.2.2.1 = 3) {i t : Nat} (hx : f.2.2.2.2.2 = lN i) (hi : i < F.2.2) (ht : t < gw_n w) (hft : F.1 i = nI t) (hkt : gw_K w t = 5) (hg : gw_gn w t = 0) (hd : A'.length + 1 < 8) (hm : M'.1 = true)
    (hp : ∀ v', yr_R w q E M' (gk_su (gk_su S a ((f.1, 3, f.2.2) :: L)) (A'.length + 1) [(t + 1, 0, nI V.2.2.2.2, e0, s0, n0)]) ((A'.length + 1) :: a :: A') (gk_bd V (nI t) (F.2.1 i) M.2.2.1 M.2.2.2) F G N sp v' → post v') : wpY_pass post v := by
  obtain ⟨bg, tk, ch, hw, so, va, gb, gh, ro, mn, wt, wo, wc, wh, ws, wv, rfl, hP⟩ := hR
  have B := yo_mk hw0 I hSa hP
  have fo := xs_fo I hSa
  obtain ⟨hbg, hhw, hv⟩ := hP.1.2 hb
  obtain ⟨j1, jr, j2, jn, jm, jk, j3, jt, jo, j4, jc, jK, jW⟩ := yp_in hw0 hq B fo.1 (Or.inr hst) hk (sg := 1) (by rw [hst])
  have hkp := (jW hst (by rw [hk]; decide)).2 (Or.inl ((fo.2.2.2.2.2.2 hst (by rw [hk]; decide)).2.2.2.2 (by rw [hk]; decide)))
  obtain ⟨rfl, rfl⟩ := hv (Or.inl hh)
  have hot : gw_o w t = 1 := by rw [hw0.2.2.2.1 _ ht, hkt]; decide
  have hp0 := yp_p0 hw0 hq ht (by omega)
  have hvc := xg_vc I
  have hn := hw0.2.2.1
  have ec : (nI i).toNatClampNeg = i := nI_clamp (by omega)
  have etc : (nI t).toNatClampNeg = t := nI_clamp (by omega)
  have i7 : vp_in (nI i) 700 := vp_in_nI (by omega) (by decide)
  have i4 : vp_in (nI t) 48 := vp_in_nI (by omega) (by decide)
  have ex : f.2.2.2.2.2.toInt32 = nI i := by rw [hx, lN_i]
  have eF : F.1 (nI i).toNatClampNeg = nI t := by rw [ec, hft]
  have eY : q.2.2.2.2.2.2.2.2.2.2.2.2.2.2 (nI t).toNatClampNeg = gw_gn w t := by rw [etc]; exact (hq.1 t ht).2.2.2
  refine ⟨j1, nm_r jr ⟨j2, br_f jn ⟨j2, j2, nm_r jm ⟨j2, nm_r jk ⟨j3, nm_r jt ⟨j3, nm_r jo ⟨j4, ?_⟩⟩⟩⟩⟩⟩⟩
  rw [jK]
  refine br_f (by decide) ⟨j4, br_f (by decide) (br_f (by rw [hhw, hh]; decide) (br_t (hhw.trans hh) (br_f (by decide) (br_f (by decide) ⟨j3, j3, ?_⟩))))⟩
  rw [hkp.1, hkp.2]
  refine ⟨j4, ?_⟩
  rw [jK]
  refine br_t (by decide) (br_t hs ?_)
  rw [ex]
  refine ⟨i7, nm_r eF ⟨i4, ?_⟩⟩
  rw [eY]
  have h8 : ¬ nI (a :: A').length = 8 := by
    show ¬ nI (A'.length + 1) = nI 8
    rw [nI_eq (by omega) (by decide)]
    omega
  refine br_t hg (br_f h8 ⟨by rw [ex]; exact i7, ?_⟩)
  rw [ex, ec]
  refine ym_bind (v := V.2.2.2.2) rfl (xg_vlt I hSa (Or.inr hst)) ⟨i4, br_t (by rw [eY, hg]) ?_⟩
  have er : (8 : Int32) + nI (a :: A').length = nI (8 + (A'.length + 1)) := nI_add 8 _
  rw [er]
  refine ym_enterD (d := A'.length + 1) (r := 8 + (A'.length + 1)) rfl (by omega) (by omega) (by omega) rfl ⟨hp0.1, ?_⟩
  rw [hp0.2]
  have hl48 := B.2.2.1 a B.1 (Or.inl (List.mem_cons_self ..))
  rw [hSa] at hl48
  have hl : L.length + 1 ≤ 48 := hl48
  have had : ∀ s, s ∈ a :: A' → s ≠ A'.length + 1 := by
    intro s hs
    rcases gk_AOm _ I.2.1.1 s hs with z | z
    · have z2 : s < A'.length + 1 := z
      omega
    · omega
  have hrow : yr_row (A'.length + 1) = 8 + (A'.length + 1) := yr_rd hd
  refine hp _ ⟨1, _, _, _, _, _, gb, gh, _, _, wt, wo, wc, wh, ws, wv, rfl, yf_mb hm, ⟨by rw [hrow]; exact pk_us, xr_Ac _ (fun j hj => pk_un (by have : j < A'.length + 1 := hj; omega)) B.2.2.2.2.1⟩,
    yr_ch (yr_flat (P' := gk_lv (a :: A') G.2.2.2) (mn' := upd mn (yr_row a) (nI (gk_yl L))) (L2 := (f.1, 3, f.2.2) :: L) B.2.2.2.2.2.1 B.1 (Or.inl (List.mem_cons_self ..)) B.2.2.1 (fun s q _ => q) B.2.2.2.1 pk_us (fun r h => pk_un h) (fun z => ⟨gk_3y, z⟩)) (by omega) ?_ ?_ (fun _ _ => rfl) (by rw [hrow]; exact pk_us) (fun r h => pk_un (by rw [← hrow]; exact h)) ⟨gk_0y, trivial⟩, ?_⟩
  · intro s h16 hs
    by_cases z : s = a
    · subst z
      rw [gk_sus]
      exact hl
    · rw [gk_sun z]
      exact B.2.2.1 s h16 hs
  · intro s hs hne
    rcases hs with h | h
    · rcases List.mem_cons.mp h with h | h
      · exact absurd h hne
      · exact Or.inl h
    · exact Or.inr h
  · intro g hg h0 f' e
    rw [gk_sun (by omega)] at e
    exact yo_g B (fun _ _ z => z) g hg h0 f' e
theorem yg_apM (hw0 : gw_S w) (hq : yq_S w q) (I : gk_I w M S (a :: A') V F G nc sp) (hR : yr_R w q E M S (a :: A') V F G N sp v) (hSa : S a = f :: L) (hb : M.1 = false) (hh : M.2.1 = 0) (hst : f.2.1 = 2) (hk : gw_K w f.1 = 6) (hs : f.2.2.2.2.1 = 3) {i t : Nat} (hx : f.2.2.2.2.2 = lN i) (hi : i < F.2.2) (ht : t < gw_n w) (hft : F.1 i = nI t) (hkt : gw_K w t = 5) (hg : gw_gn w t = 1) (hd : G.2.2.2 < 8)
    (hp : ∀ v', yr_R w q E (false, 0, 4, lN G.2.2.2) (gk_su (gk_su S a L) (8 + G.2.2.2) [(t + 1, 0, nI V.2.2.2.2, e0, s0, n0)]) (a :: A') (gk_bd V (nI t) (F.2.1 i) M.2.2.1 M.2.2.2) F (upd G.1 G.2.2.2 0, upd G.2.1 G.2.2.2 0, G.2.2.1, G.2.2.2 + 1) N sp v' → post v') : wpY_pass post v := by
  obtain ⟨bg, tk, ch, hw, so, va, gb, gh, ro, mn, wt, wo, wc, wh, ws, wv, rfl, hP⟩ := hR
  have B := yo_mk hw0 I hSa hP
  have fo := xs_fo I hSa
  obtain ⟨hbg, hhw, hv⟩ := hP.1.2 hb
  obtain ⟨j1, jr, j2, jn, jm, jk, j3, jt, jo, j4, jc, jK, jW⟩ := yp_in hw0 hq B fo.1 (Or.inr hst) hk (sg := 1) (by rw [hst])
  have hkp := (jW hst (by rw [hk]; decide)).2 (Or.inl ((fo.2.2.2.2.2.2 hst (by rw [hk]; decide)).2.2.2.2 (by rw [hk]; decide)))
  obtain ⟨rfl, rfl⟩ := hv (Or.inl hh)
  have hot : gw_o w t = 1 := by rw [hw0.2.2.2.1 _ ht, hkt]; decide
  have hp0 := yp_p0 hw0 hq ht (by omega)
  have hvc := xg_vc I
  have hn := hw0.2.2.1
  have ec : (nI i).toNatClampNeg = i := nI_clamp (by omega)
  have etc : (nI t).toNatClampNeg = t := nI_clamp (by omega)
  have i7 : vp_in (nI i) 700 := vp_in_nI (by omega) (by decide)
  have i4 : vp_in (nI t) 48 := vp_in_nI (by omega) (by decide)
  have ex : f.2.2.2.2.2.toInt32 = nI i := by rw [hx, lN_i]
  have eF : F.1 (nI i).toNatClampNeg = nI t := by rw [ec, hft]
  have eY : q.2.2.2.2.2.2.2.2.2.2.2.2.2.2 (nI t).toNatClampNeg = gw_gn w t := by rw [etc]; exact (hq.1 t ht).2.2.2
  refine ⟨j1, nm_r jr ⟨j2, br_f jn ⟨j2, j2, nm_r jm ⟨j2, nm_r jk ⟨j3, nm_r jt ⟨j3, nm_r jo ⟨j4, ?_⟩⟩⟩⟩⟩⟩⟩
  rw [jK]
  refine br_f (by decide) ⟨j4, br_f (by decide) (br_f (by rw [hhw, hh]; decide) (br_t (hhw.trans hh) (br_f (by decide) (br_f (by decide) ⟨j3, j3, ?_⟩))))⟩
  rw [hkp.1, hkp.2]
  refine ⟨j4, ?_⟩
  rw [jK]
  refine br_t (by decide) (br_t hs ?_)
  rw [ex]
  refine ⟨i7, nm_r eF ⟨i4, ?_⟩⟩
  rw [eY]
  have h8 : ¬ nI G.2.2.2 = 8 := by
    show ¬ nI G.2.2.2 = nI 8
    rw [nI_eq (by omega) (by decide)]
    omega
  refine br_f (by rw [hg]; decide) (br_f h8 ⟨by rw [ex]; exact i7, ?_⟩)
  rw [ex, ec]
  have egc : (nI G.2.2.2).toNatClampNeg = G.2.2.2 := nI_clamp (by omega)
  have ig : vp_in (nI G.2.2.2) 8 := vp_in_nI hd (by decide)
  have ig17 : vp_in (nI G.2.2.2) 17 := vp_in_nI (by omega) (by decide)
  refine ym_bind (v := V.2.2.2.2) rfl (xg_vlt I hSa (Or.inr hst)) ⟨i4, br_f (by rw [eY, hg]; decide) (nm_r (nI_1 _) ⟨ig, nm_r (e' := upd G.1 G.2.2.2 0) (by rw [egc]) ⟨hp0.1, ig, nm_r (e' := upd gb G.2.2.2 (nI (t + 1))) (by rw [egc, hp0.2]) ⟨ig, nm_r (e' := upd gh G.2.2.2 (nI V.2.2.2.2)) (by rw [egc]) ⟨ig, nm_r (e' := upd G.2.1 G.2.2.2 0) (by rw [egc, ym_b0]) ⟨ig17, nm_r (e' := upd (upd mn (yr_row a) (nI (gk_yl L))) G.2.2.2 0) (by rw [egc]) ?_⟩⟩⟩⟩⟩)⟩
  rw [nI_l (by omega)]
  have hl48 := B.2.2.1 a B.1 (Or.inl (List.mem_cons_self ..))
  rw [hSa] at hl48
  have hl : L.length + 1 ≤ 48 := hl48
  have hag := gk_AOg _ I.2.1.1 I.2.1.2 a (List.mem_cons_self ..)
  have hrow : yr_row (8 + G.2.2.2) = G.2.2.2 := yr_rg _
  refine hp _ ⟨0, _, _, 0, 4, _, _, _, ro, _, wt, wo, wc, wh, ws, wv, rfl, yf_me, B.2.2.2.2.1,
    yr_ch (yr_flat (P' := gk_lv (a :: A') G.2.2.2) (mn' := upd mn (yr_row a) (nI (gk_yl L))) (L2 := L) B.2.2.2.2.2.1 B.1 (Or.inl (List.mem_cons_self ..)) B.2.2.1 (fun s q _ => q) B.2.2.2.1 pk_us (fun r h => pk_un h) (fun z => z)) (by omega) ?_ ?_ (fun _ _ => rfl) (by rw [hrow]; exact pk_us) (fun r h => pk_un (by rw [← hrow]; exact h)) ⟨gk_0y, trivial⟩, ?_⟩
  · intro s h16 hs
    by_cases z : s = a
    · subst z
      rw [gk_sus]
      omega
    · rw [gk_sun z]
      exact B.2.2.1 s h16 hs
  · intro s hs hne
    rcases hs with h | h
    · exact Or.inl h
    · have h2 : s < 8 + (G.2.2.2 + 1) := h.2
      exact Or.inr ⟨h.1, by omega⟩
  · intro g hg2 h0 f' e
    have hg3 : g < G.2.2.2 + 1 := hg2
    by_cases z : g = G.2.2.2
    · subst z
      rw [gk_sus] at e
      cases e
      exact ⟨pk_us, pk_us⟩
    · rw [gk_sun (by omega)] at e
      have h00 : upd G.1 G.2.2.2 0 g = 0 := h0
      rw [pk_un z] at h00
      have r := yo_g B (fun _ _ z => z) g (by omega) h00 f' e
      rw [pk_un z, pk_un z]
      exact r
theorem yg_rs3 (hw0 : gw_S w) (hq : yq_S w q) (I : gk_I w M S (a :: A') V F G nc sp) (hR : yr_R w q E M S (a :: A') V F G N sp v) (hSa : S a = f :: L) (hb : M.1 = false) (hh : M.2.1 = 0) (hst : f.2.1 = 2) (hk : gw_K w f.1 = 23) (hs : f.2.2.2.2.1 ≠ 4)
    (hp : ∀ v', yr_R w q E (false, 1, 1, (-3 : Int32).toInt64) (gk_su S a L) (a :: A') V F G N sp v' → post v') : wpY_pass post v := by
  obtain ⟨bg, tk, ch, hw, so, va, gb, gh, ro, mn, wt, wo, wc, wh, ws, wv, rfl, hP⟩ := hR
  have B := yo_mk hw0 I hSa hP
  have fo := xs_fo I hSa
  obtain ⟨hbg, hhw, hv⟩ := hP.1.2 hb
  obtain ⟨j1, jr, j2, jn, jm, jk, j3, jt, jo, j4, jc, jK, jW⟩ := yp_in hw0 hq B fo.1 (Or.inr hst) hk (sg := 1) (by rw [hst])
  have hkp := (jW hst (by rw [hk]; decide)).2 (Or.inl ((fo.2.2.2.2.2.2 hst (by rw [hk]; decide)).2.2.2.2 (by rw [hk]; decide)))
  refine ⟨j1, nm_r jr ⟨j2, br_f jn ⟨j2, j2, nm_r jm ⟨j2, nm_r jk ⟨j3, nm_r jt ⟨j3, nm_r jo ⟨j4, ?_⟩⟩⟩⟩⟩⟩⟩
  rw [jK]
  refine br_f (by decide) ⟨j4, br_f (by decide) (br_f (by rw [hhw, hh]; decide) (br_t (hhw.trans hh) (br_f (by decide) (br_f (by decide) ⟨j3, j3, ?_⟩))))⟩
  rw [hkp.1, hkp.2]
  refine ⟨j4, ?_⟩
  rw [jK]
  refine br_f (by decide) ⟨j4, br_t (by decide) (br_f hs ?_)⟩
  exact yf_top (M' := (false, 1, 1, (-3 : Int32).toInt64)) (L2 := L) (post := post) (V' := V) (F' := F) (N' := N) (sp' := sp) (st' := G.1) (cl' := G.2.1) (gy' := G.2.2.1) B (fun _ _ z => z) pk_us (fun r h => pk_un h) (fun z => z) yf_me hp
theorem yg_rsE (hw0 : gw_S w) (hq : yq_S w q) (I : gk_I w M S (a :: A') V F G nc sp) (hR : yr_R w q E M S (a :: A') V F G N sp v) (hSa : S a = f :: L) (hb : M.1 = false) (hh : M.2.1 = 0) (hst : f.2.1 = 2) (hk : gw_K w f.1 = 23) (hs : f.2.2.2.2.1 = 4) {g : Nat} (hx : f.2.2.2.2.2 = lN g) (hg : g < G.2.2.2) (h3 : G.1 g = 3)
    (hp : ∀ v', yr_R w q E (false, 0, 0, 0) (gk_su S a L) (a :: A') V F G N sp v' → post v') : wpY_pass post v := by
  obtain ⟨bg, tk, ch, hw, so, va, gb, gh, ro, mn, wt, wo, wc, wh, ws, wv, rfl, hP⟩ := hR
  have B := yo_mk hw0 I hSa hP
  have fo := xs_fo I hSa
  obtain ⟨hbg, hhw, hv⟩ := hP.1.2 hb
  obtain ⟨j1, jr, j2, jn, jm, jk, j3, jt, jo, j4, jc, jK, jW⟩ := yp_in hw0 hq B fo.1 (Or.inr hst) hk (sg := 1) (by rw [hst])
  have hkp := (jW hst (by rw [hk]; decide)).2 (Or.inl ((fo.2.2.2.2.2.2 hst (by rw [hk]; decide)).2.2.2.2 (by rw [hk]; decide)))
  have hvc := xg_vc I
  have egc : (nI g).toNatClampNeg = g := nI_clamp (by omega)
  have ig : vp_in (nI g) 8 := vp_in_nI (by omega) (by decide)
  have ex : f.2.2.2.2.2.toInt32 = nI g := by rw [hx, lN_i]
  refine ⟨j1, nm_r jr ⟨j2, br_f jn ⟨j2, j2, nm_r jm ⟨j2, nm_r jk ⟨j3, nm_r jt ⟨j3, nm_r jo ⟨j4, ?_⟩⟩⟩⟩⟩⟩⟩
  rw [jK]
  refine br_f (by decide) ⟨j4, br_f (by decide) (br_f (by rw [hhw, hh]; decide) (br_t (hhw.trans hh) (br_f (by decide) (br_f (by decide) ⟨j3, j3, ?_⟩))))⟩
  rw [hkp.1, hkp.2]
  refine ⟨j4, ?_⟩
  rw [jK]
  refine br_f (by decide) ⟨j4, br_t (by decide) (br_t hs ?_)⟩
  rw [ex]
  refine ⟨ig, ?_⟩
  rw [egc]
  refine br_f (by rw [h3]; decide) ⟨ig, br_t h3 ?_⟩
  exact yf_top (M' := (false, 0, 0, 0)) (L2 := L) (post := post) (V' := V) (F' := F) (N' := N) (sp' := sp) (st' := G.1) (cl' := G.2.1) (gy' := G.2.2.1) B (fun _ _ z => z) pk_us (fun r h => pk_un h) (fun z => z) yf_me hp
theorem yg_rsW (hw0 : gw_S w) (hq : yq_S w q) (I : gk_I w M S (a :: A') V F G nc sp) (hR : yr_R w q E M S (a :: A') V F G N sp v) (hSa : S a = f :: L) (hb : M.1 = false) (hh : M.2.1 = 0) (hst : f.2.1 = 2) (hk : gw_K w f.1 = 23) (hs : f.2.2.2.2.1 = 4) {g : Nat} (hx : f.2.2.2.2.2 = lN g) (hg : g < G.2.2.2) (h2 : G.1 g = 2)
    (hp : ∀ v', yr_R w q E (false, 1, 1, (-4 : Int32).toInt64) (gk_su S a L) (a :: A') V F G N sp v' → post v') : wpY_pass post v := by
  obtain ⟨bg, tk, ch, hw, so, va, gb, gh, ro, mn, wt, wo, wc, wh, ws, wv, rfl, hP⟩ := hR
  have B := yo_mk hw0 I hSa hP
  have fo := xs_fo I hSa
  obtain ⟨hbg, hhw, hv⟩ := hP.1.2 hb
  obtain ⟨j1, jr, j2, jn, jm, jk, j3, jt, jo, j4, jc, jK, jW⟩ := yp_in hw0 hq B fo.1 (Or.inr hst) hk (sg := 1) (by rw [hst])
  have hkp := (jW hst (by rw [hk]; decide)).2 (Or.inl ((fo.2.2.2.2.2.2 hst (by rw [hk]; decide)).2.2.2.2 (by rw [hk]; decide)))
  have hvc := xg_vc I
  have egc : (nI g).toNatClampNeg = g := nI_clamp (by omega)
  have ig : vp_in (nI g) 8 := vp_in_nI (by omega) (by decide)
  have ex : f.2.2.2.2.2.toInt32 = nI g := by rw [hx, lN_i]
  refine ⟨j1, nm_r jr ⟨j2, br_f jn ⟨j2, j2, nm_r jm ⟨j2, nm_r jk ⟨j3, nm_r jt ⟨j3, nm_r jo ⟨j4, ?_⟩⟩⟩⟩⟩⟩⟩
  rw [jK]
  refine br_f (by decide) ⟨j4, br_f (by decide) (br_f (by rw [hhw, hh]; decide) (br_t (hhw.trans hh) (br_f (by decide) (br_f (by decide) ⟨j3, j3, ?_⟩))))⟩
  rw [hkp.1, hkp.2]
  refine ⟨j4, ?_⟩
  rw [jK]
  refine br_f (by decide) ⟨j4, br_t (by decide) (br_t hs ?_)⟩
  rw [ex]
  refine ⟨ig, ?_⟩
  rw [egc]
  refine br_t h2 ?_
  exact yf_top (M' := (false, 1, 1, (-4 : Int32).toInt64)) (L2 := L) (post := post) (V' := V) (F' := F) (N' := N) (sp' := sp) (st' := G.1) (cl' := G.2.1) (gy' := G.2.2.1) B (fun _ _ z => z) pk_us (fun r h => pk_un h) (fun z => z) yf_me hp
theorem yg_rsF (hw0 : gw_S w) (hq : yq_S w q) (I : gk_I w M S (a :: A') V F G nc sp) (hR : yr_R w q E M S (a :: A') V F G N sp v) (hSa : S a = f :: L) (hb : M.1 = false) (hh : M.2.1 = 0) (hst : f.2.1 = 2) (hk : gw_K w f.1 = 23) (hs : f.2.2.2.2.1 = 4) {g : Nat} (hx : f.2.2.2.2.2 = lN g) (hg : g < G.2.2.2) (h2 : G.1 g = 0 ∨ G.1 g = 1) (hd : ¬ A'.length + 1 < 8)
    (hp : ∀ v', yr_R w q E (false, 1, 1, (-5 : Int32).toInt64) (gk_su S a L) (a :: A') V F G N sp v' → post v') : wpY_pass post v := by
  obtain ⟨bg, tk, ch, hw, so, va, gb, gh, ro, mn, wt, wo, wc, wh, ws, wv, rfl, hP⟩ := hR
  have B := yo_mk hw0 I hSa hP
  have fo := xs_fo I hSa
  obtain ⟨hbg, hhw, hv⟩ := hP.1.2 hb
  obtain ⟨j1, jr, j2, jn, jm, jk, j3, jt, jo, j4, jc, jK, jW⟩ := yp_in hw0 hq B fo.1 (Or.inr hst) hk (sg := 1) (by rw [hst])
  have hkp := (jW hst (by rw [hk]; decide)).2 (Or.inl ((fo.2.2.2.2.2.2 hst (by rw [hk]; decide)).2.2.2.2 (by rw [hk]; decide)))
  have hvc := xg_vc I
  have egc : (nI g).toNatClampNeg = g := nI_clamp (by omega)
  have ig : vp_in (nI g) 8 := vp_in_nI (by omega) (by decide)
  have ex : f.2.2.2.2.2.toInt32 = nI g := by rw [hx, lN_i]
  refine ⟨j1, nm_r jr ⟨j2, br_f jn ⟨j2, j2, nm_r jm ⟨j2, nm_r jk ⟨j3, nm_r jt ⟨j3, nm_r jo ⟨j4, ?_⟩⟩⟩⟩⟩⟩⟩
  rw [jK]
  refine br_f (by decide) ⟨j4, br_f (by decide) (br_f (by rw [hhw, hh]; decide) (br_t (hhw.trans hh) (br_f (by decide) (br_f (by decide) ⟨j3, j3, ?_⟩))))⟩
  rw [hkp.1, hkp.2]
  refine ⟨j4, ?_⟩
  rw [jK]
  refine br_f (by decide) ⟨j4, br_t (by decide) (br_t hs ?_)⟩
  rw [ex]
  refine ⟨ig, ?_⟩
  rw [egc]
  have e8 : A'.length + 1 = 8 := by have := B.2.1; omega
  have h8 : nI (a :: A').length = 8 := by
    show nI (A'.length + 1) = 8
    rw [e8]
    rfl
  refine br_f (by rcases h2 with z | z <;> (rw [z]; decide)) ⟨ig, br_f (by rcases h2 with z | z <;> (rw [z]; decide)) (br_t h8 ?_)⟩
  exact yf_top (M' := (false, 1, 1, (-5 : Int32).toInt64)) (L2 := L) (post := post) (V' := V) (F' := F) (N' := N) (sp' := sp) (st' := G.1) (cl' := G.2.1) (gy' := G.2.2.1) B (fun _ _ z => z) pk_us (fun r h => pk_un h) (fun z => z) yf_me hp
theorem yg_rs0 (hw0 : gw_S w) (hq : yq_S w q) (I : gk_I w M S (a :: A') V F G nc sp) (hR : yr_R w q E M S (a :: A') V F G N sp v) (hSa : S a = f :: L) (hb : M.1 = false) (hh : M.2.1 = 0) (hst : f.2.1 = 2) (hk : gw_K w f.1 = 23) (hs : f.2.2.2.2.1 = 4) {g : Nat} (hx : f.2.2.2.2.2 = lN g) (hg : g < G.2.2.2) (h2 : G.1 g = 0) (hd : A'.length + 1 < 8) (hm : M'.1 = true)
    (hp : ∀ v', yr_R w q E M' (gk_su S a ((f.1, 3, f.2.2) :: L)) ((8 + g) :: a :: A') V F (upd G.1 g 2, G.2.1, G.2.2.1, G.2.2.2) N sp v' → post v') : wpY_pass post v := by
  obtain ⟨bg, tk, ch, hw, so, va, gb, gh, ro, mn, wt, wo, wc, wh, ws, wv, rfl, hP⟩ := hR
  have B := yo_mk hw0 I hSa hP
  have fo := xs_fo I hSa
  obtain ⟨hbg, hhw, hv⟩ := hP.1.2 hb
  obtain ⟨j1, jr, j2, jn, jm, jk, j3, jt, jo, j4, jc, jK, jW⟩ := yp_in hw0 hq B fo.1 (Or.inr hst) hk (sg := 1) (by rw [hst])
  have hkp := (jW hst (by rw [hk]; decide)).2 (Or.inl ((fo.2.2.2.2.2.2 hst (by rw [hk]; decide)).2.2.2.2 (by rw [hk]; decide)))
  have hvc := xg_vc I
  have egc : (nI g).toNatClampNeg = g := nI_clamp (by omega)
  have ig : vp_in (nI g) 8 := vp_in_nI (by omega) (by decide)
  have ex : f.2.2.2.2.2.toInt32 = nI g := by rw [hx, lN_i]
  refine ⟨j1, nm_r jr ⟨j2, br_f jn ⟨j2, j2, nm_r jm ⟨j2, nm_r jk ⟨j3, nm_r jt ⟨j3, nm_r jo ⟨j4, ?_⟩⟩⟩⟩⟩⟩⟩
  rw [jK]
  refine br_f (by decide) ⟨j4, br_f (by decide) (br_f (by rw [hhw, hh]; decide) (br_t (hhw.trans hh) (br_f (by decide) (br_f (by decide) ⟨j3, j3, ?_⟩))))⟩
  rw [hkp.1, hkp.2]
  refine ⟨j4, ?_⟩
  rw [jK]
  refine br_f (by decide) ⟨j4, br_t (by decide) (br_t hs ?_)⟩
  rw [ex]
  refine ⟨ig, ?_⟩
  rw [egc]
  have h8 : ¬ nI (a :: A').length = 8 := by
    show ¬ nI (A'.length + 1) = nI 8
    rw [nI_eq (by omega) (by decide)]
    omega
  have hfr := ((I.2.2.1 g hg).2.2.2.1 h2).2
  refine br_f (by rw [h2]; decide) ⟨ig, br_f (by rw [h2]; decide) (br_f h8 ⟨ig, br_t h2 ⟨ig, nm_r (e' := upd G.1 g 2) (by rw [egc]) ?_⟩⟩)⟩
  refine ym_enterG (d := A'.length + 1) rfl (by omega) (by omega) (br_f (by decide) ⟨ig, ig, ?_⟩)
  rw [egc]
  refine hp _ ⟨1, gb g, gh g, hw, so, va, gb, gh, _, _, wt, wo, wc, wh, ws, wv, rfl, ⟨fun _ => ⟨rfl, ?_⟩, fun z => absurd (hm.symm.trans z) (by decide)⟩, ⟨by rw [yr_rg]; exact pk_us, xr_Ac _ (fun j hj => pk_un (by have : j < A'.length + 1 := hj; omega)) B.2.2.2.2.1⟩, yr_flat (mn' := upd mn (yr_row a) (nI (gk_yl L))) B.2.2.2.2.2.1 B.1 (Or.inl (List.mem_cons_self ..)) B.2.2.1 (yo_lv hg) B.2.2.2.1 pk_us (fun r h => pk_un h) (fun z => ⟨gk_3y, z⟩), yo_g B (yo_u3 (by decide))⟩
  intro a2 A2 f2 L3 e1 e2
  cases e1
  have hB := B.2.2.2.2.2.2 g hg h2
  rw [gk_sun hB.1] at e2
  obtain ⟨f0, e3, _⟩ := hfr
  rw [e3] at e2
  cases e2
  exact hB.2 _ e3
theorem yg_rs1 (hw0 : gw_S w) (hq : yq_S w q) (I : gk_I w M S (a :: A') V F G nc sp) (hR : yr_R w q E M S (a :: A') V F G N sp v) (hSa : S a = f :: L) (hb : M.1 = false) (hh : M.2.1 = 0) (hst : f.2.1 = 2) (hk : gw_K w f.1 = 23) (hs : f.2.2.2.2.1 = 4) {g : Nat} (hx : f.2.2.2.2.2 = lN g) (hg : g < G.2.2.2) (h2 : G.1 g = 1) (hd : A'.length + 1 < 8)
    (hp : ∀ v', yr_R w q E M (gk_su S a ((f.1, 3, f.2.2) :: L)) ((8 + g) :: a :: A') V F (upd G.1 g 2, G.2.1, G.2.2.1, G.2.2.2) N sp v' → post v') : wpY_pass post v := by
  obtain ⟨bg, tk, ch, hw, so, va, gb, gh, ro, mn, wt, wo, wc, wh, ws, wv, rfl, hP⟩ := hR
  have B := yo_mk hw0 I hSa hP
  have fo := xs_fo I hSa
  obtain ⟨hbg, hhw, hv⟩ := hP.1.2 hb
  obtain ⟨j1, jr, j2, jn, jm, jk, j3, jt, jo, j4, jc, jK, jW⟩ := yp_in hw0 hq B fo.1 (Or.inr hst) hk (sg := 1) (by rw [hst])
  have hkp := (jW hst (by rw [hk]; decide)).2 (Or.inl ((fo.2.2.2.2.2.2 hst (by rw [hk]; decide)).2.2.2.2 (by rw [hk]; decide)))
  have hvc := xg_vc I
  have egc : (nI g).toNatClampNeg = g := nI_clamp (by omega)
  have ig : vp_in (nI g) 8 := vp_in_nI (by omega) (by decide)
  have ex : f.2.2.2.2.2.toInt32 = nI g := by rw [hx, lN_i]
  refine ⟨j1, nm_r jr ⟨j2, br_f jn ⟨j2, j2, nm_r jm ⟨j2, nm_r jk ⟨j3, nm_r jt ⟨j3, nm_r jo ⟨j4, ?_⟩⟩⟩⟩⟩⟩⟩
  rw [jK]
  refine br_f (by decide) ⟨j4, br_f (by decide) (br_f (by rw [hhw, hh]; decide) (br_t (hhw.trans hh) (br_f (by decide) (br_f (by decide) ⟨j3, j3, ?_⟩))))⟩
  rw [hkp.1, hkp.2]
  refine ⟨j4, ?_⟩
  rw [jK]
  refine br_f (by decide) ⟨j4, br_t (by decide) (br_t hs ?_)⟩
  rw [ex]
  refine ⟨ig, ?_⟩
  rw [egc]
  have h8 : ¬ nI (a :: A').length = 8 := by
    show ¬ nI (A'.length + 1) = nI 8
    rw [nI_eq (by omega) (by decide)]
    omega
  refine br_f (by rw [h2]; decide) ⟨ig, br_f (by rw [h2]; decide) (br_f h8 ⟨ig, br_f (by rw [h2]; decide) ⟨ig, nm_r (e' := upd G.1 g 2) (by rw [egc]) ?_⟩⟩)⟩
  refine ym_enterG (d := A'.length + 1) rfl (by omega) (by omega) (br_t (by decide) ?_)
  exact hp _ ⟨bg, tk, ch, hw, so, va, gb, gh, _, _, wt, wo, wc, wh, ws, wv, rfl, yf_ms hb ⟨hbg, hhw, hv⟩, ⟨by rw [yr_rg]; exact pk_us, xr_Ac _ (fun j hj => pk_un (by have : j < A'.length + 1 := hj; omega)) B.2.2.2.2.1⟩, yr_flat (mn' := upd mn (yr_row a) (nI (gk_yl L))) B.2.2.2.2.2.1 B.1 (Or.inl (List.mem_cons_self ..)) B.2.2.1 (yo_lv hg) B.2.2.2.1 pk_us (fun r h => pk_un h) (fun z => ⟨gk_3y, z⟩), yo_g B (yo_u3 (by decide))⟩
theorem yg_same (hw0 : gw_S w) (hq : yq_S w q) (I : gk_I w M S (a :: A') V F G nc sp) (hR : yr_R w q E M S (a :: A') V F G N sp v) (hSa : S a = f :: L) (hb : M.1 = false) (hh : M.2.1 = 0) (hst : f.2.1 = 2) (hk : gw_K w f.1 = 12)
    (hp : ∀ v', yr_R w q E (false, 0, 1, gk_same f.2.2.2.2.1 f.2.2.2.2.2 M.2.2.1 M.2.2.2) (gk_su S a L) (a :: A') V F G N sp v' → post v') : wpY_pass post v := by
  obtain ⟨bg, tk, ch, hw, so, va, gb, gh, ro, mn, wt, wo, wc, wh, ws, wv, rfl, hP⟩ := hR
  have B := yo_mk hw0 I hSa hP
  have fo := xs_fo I hSa
  obtain ⟨hbg, hhw, hv⟩ := hP.1.2 hb
  obtain ⟨j1, jr, j2, jn, jm, jk, j3, jt, jo, j4, jc, jK, jW⟩ := yp_in hw0 hq B fo.1 (Or.inr hst) hk (sg := 1) (by rw [hst])
  have hkp := (jW hst (by rw [hk]; decide)).2 (Or.inl ((fo.2.2.2.2.2.2 hst (by rw [hk]; decide)).2.2.2.2 (by rw [hk]; decide)))
  obtain ⟨rfl, rfl⟩ := hv (Or.inl hh)
  refine ⟨j1, nm_r jr ⟨j2, br_f jn ⟨j2, j2, nm_r jm ⟨j2, nm_r jk ⟨j3, nm_r jt ⟨j3, nm_r jo ⟨j4, ?_⟩⟩⟩⟩⟩⟩⟩
  rw [jK]
  refine br_f (by decide) ⟨j4, br_f (by decide) (br_f (by rw [hhw, hh]; decide) (br_t (hhw.trans hh) (br_f (by decide) (br_f (by decide) ⟨j3, j3, ?_⟩))))⟩
  rw [hkp.1, hkp.2]
  refine ⟨j4, ?_⟩
  rw [jK]
  refine br_f (by decide) ⟨j4, br_f (by decide) ⟨j4, br_t (by decide) ?_⟩⟩
  have fin : ∀ z : Int32, (z = 1 ∨ z = 0) → z.toInt64 = gk_same f.2.2.2.2.1 f.2.2.2.2.2 M.2.2.1 M.2.2.2 → wY_both_127 post z q.1 q.2.1 q.2.2.1 q.2.2.2.1 (nI V.2.2.2.2) (nI F.2.2) (nI G.2.2.2) (nI (a :: A').length) bg tk ch hw M.2.2.1 M.2.2.2 (nI sp) E.1 E.2.1 E.2.2.1 E.2.2.2 (nI N.2.2) q.2.2.2.2.1 q.2.2.2.2.2.1 q.2.2.2.2.2.2.1 q.2.2.2.2.2.2.2.1 q.2.2.2.2.2.2.2.2.1 q.2.2.2.2.2.2.2.2.2.1 q.2.2.2.2.2.2.2.2.2.2.1 q.2.2.2.2.2.2.2.2.2.2.2.1 q.2.2.2.2.2.2.2.2.2.2.2.2.1 q.2.2.2.2.2.2.2.2.2.2.2.2.2.1 q.2.2.2.2.2.2.2.2.2.2.2.2.2.2 V.1 V.2.1 V.2.2.1 V.2.2.2.1 F.1 F.2.1 G.1 gb gh G.2.2.1 G.2.1 ro (upd mn (yr_row a) (nI (gk_yl L))) wt wo wc ws wh wv N.1 N.2.1 := by
    intro z _ e
    rw [← e] at hp
    exact yf_top (M' := (false, 0, 1, z.toInt64)) (L2 := L) (post := post) (V' := V) (F' := F) (N' := N) (sp' := sp) (st' := G.1) (cl' := G.2.1) (gy' := G.2.2.1) B (fun _ _ z => z) pk_us (fun r h => pk_un h) (fun z => z) yf_me hp
  unfold gk_same at fin
  have g89 : ∀ (x5 z0 : Int32), ((x5 = 1 ∧ gk_nu f.2.2.2.2.1) ∨ (x5 = 0 ∧ ¬ gk_nu f.2.2.2.2.1)) → ((z0 = 1 ∧ gk_nu M.2.2.1) ∨ (z0 = 0 ∧ ¬ gk_nu M.2.2.1)) → wY_both_89 post f.2.2.2.2.1 f.2.2.2.2.2 x5 z0 q.1 q.2.1 q.2.2.1 q.2.2.2.1 (nI V.2.2.2.2) (nI F.2.2) (nI G.2.2.2) (nI (a :: A').length) bg tk ch hw M.2.2.1 M.2.2.2 (nI sp) E.1 E.2.1 E.2.2.1 E.2.2.2 (nI N.2.2) q.2.2.2.2.1 q.2.2.2.2.2.1 q.2.2.2.2.2.2.1 q.2.2.2.2.2.2.2.1 q.2.2.2.2.2.2.2.2.1 q.2.2.2.2.2.2.2.2.2.1 q.2.2.2.2.2.2.2.2.2.2.1 q.2.2.2.2.2.2.2.2.2.2.2.1 q.2.2.2.2.2.2.2.2.2.2.2.2.1 q.2.2.2.2.2.2.2.2.2.2.2.2.2.1 q.2.2.2.2.2.2.2.2.2.2.2.2.2.2 V.1 V.2.1 V.2.2.1 V.2.2.2.1 F.1 F.2.1 G.1 gb gh G.2.2.1 G.2.1 ro (upd mn (yr_row a) (nI (gk_yl L))) wt wo wc ws wh wv N.1 N.2.1 := by
    intro x5 z0 h5 h0
    refine br_c (fun e => ?_) (fun e => ?_)
    · rcases h5 with ⟨r5, n5⟩ | ⟨r5, n5⟩
      · subst r5
        rcases h0 with ⟨r0, n0⟩ | ⟨r0, n0⟩
        · subst r0
          exact br_f (by decide) (br_f (by decide) (fin 1 (Or.inl rfl) (by rw [if_pos ⟨e, Or.inl ⟨n5, n0⟩⟩]; rfl)))
        · subst r0
          refine br_f (by decide) (br_t (by decide) (fin 0 (Or.inr rfl) ?_))
          rw [if_neg]
          · rfl
          · intro c
            rcases c.2 with d | d
            · exact n0 d.2
            · exact n0 (by rw [← d]; exact n5)
      · subst r5
        refine br_t (by decide) (br_c (fun d => ?_) (fun d => ?_))
        · exact fin 1 (Or.inl rfl) (by rw [if_pos ⟨e, Or.inr d⟩]; rfl)
        · refine fin 0 (Or.inr rfl) ?_
          rw [if_neg]
          · rfl
          · intro c
            rcases c.2 with y | y
            · exact n5 y.1
            · exact d y
    · exact fin 0 (Or.inr rfl) (by rw [if_neg (fun c => e c.1)]; rfl)
  have g66 : ∀ (x5 : Int32), ((x5 = 1 ∧ gk_nu f.2.2.2.2.1) ∨ (x5 = 0 ∧ ¬ gk_nu f.2.2.2.2.1)) → wY_both_66 post f.2.2.2.2.1 f.2.2.2.2.2 x5 q.1 q.2.1 q.2.2.1 q.2.2.2.1 (nI V.2.2.2.2) (nI F.2.2) (nI G.2.2.2) (nI (a :: A').length) bg tk ch hw M.2.2.1 M.2.2.2 (nI sp) E.1 E.2.1 E.2.2.1 E.2.2.2 (nI N.2.2) q.2.2.2.2.1 q.2.2.2.2.2.1 q.2.2.2.2.2.2.1 q.2.2.2.2.2.2.2.1 q.2.2.2.2.2.2.2.2.1 q.2.2.2.2.2.2.2.2.2.1 q.2.2.2.2.2.2.2.2.2.2.1 q.2.2.2.2.2.2.2.2.2.2.2.1 q.2.2.2.2.2.2.2.2.2.2.2.2.1 q.2.2.2.2.2.2.2.2.2.2.2.2.2.1 q.2.2.2.2.2.2.2.2.2.2.2.2.2.2 V.1 V.2.1 V.2.2.1 V.2.2.2.1 F.1 F.2.1 G.1 gb gh G.2.2.1 G.2.1 ro (upd mn (yr_row a) (nI (gk_yl L))) wt wo wc ws wh wv N.1 N.2.1 := by
    intro x5 h5
    refine br_c (fun e => ?_) (fun e => br_c (fun d => ?_) (fun d => ?_))
    · exact g89 x5 1 h5 (Or.inl ⟨rfl, Or.inl e⟩)
    · exact g89 x5 1 h5 (Or.inl ⟨rfl, Or.inr d⟩)
    · exact g89 x5 0 h5 (Or.inr ⟨rfl, fun c => by rcases c with c | c; exact e c; exact d c⟩)
  refine br_c (fun e => ?_) (fun e => br_c (fun d => ?_) (fun d => ?_))
  · exact g66 1 (Or.inl ⟨rfl, Or.inl e⟩)
  · exact g66 1 (Or.inl ⟨rfl, Or.inr d⟩)
  · exact g66 0 (Or.inr ⟨rfl, fun c => by rcases c with c | c; exact e c; exact d c⟩)
theorem yg_ca3 (hw0 : gw_S w) (hq : yq_S w q) (I : gk_I w M S (a :: A') V F G nc sp) (hR : yr_R w q E M S (a :: A') V F G N sp v) (hSa : S a = f :: L) (hb : M.1 = false) (hh : M.2.1 = 0) (hst : f.2.1 = 2) {kd : Int32} (hk : gw_K w f.1 = kd) (hd : kd = 7 ∨ kd = 8 ∨ kd = 9 ∨ kd = 10 ∨ kd = 11) (hn : ¬ (gk_nu f.2.2.2.2.1 ∧ gk_nu M.2.2.1))
    (hp : ∀ v', yr_R w q E (false, 1, 1, (-3 : Int32).toInt64) (gk_su S a L) (a :: A') V F G N sp v' → post v') : wpY_pass post v := by
  obtain ⟨bg, tk, ch, hw, so, va, gb, gh, ro, mn, wt, wo, wc, wh, ws, wv, rfl, hP⟩ := hR
  have B := yo_mk hw0 I hSa hP
  have fo := xs_fo I hSa
  obtain ⟨hbg, hhw, hv⟩ := hP.1.2 hb
  obtain ⟨j1, jr, j2, jn, jm, jk, j3, jt, jo, j4, jc, jK, jW⟩ := yp_in hw0 hq B fo.1 (Or.inr hst) hk (sg := 1) (by rw [hst])
  have h14 : kd ≠ 14 := by rcases hd with rfl | rfl | rfl | rfl | rfl <;> decide
  have h21 : kd ≠ 21 := by rcases hd with rfl | rfl | rfl | rfl | rfl <;> decide
  have h6 : kd ≠ 6 := by rcases hd with rfl | rfl | rfl | rfl | rfl <;> decide
  have h23 : kd ≠ 23 := by rcases hd with rfl | rfl | rfl | rfl | rfl <;> decide
  have h12 : kd ≠ 12 := by rcases hd with rfl | rfl | rfl | rfl | rfl <;> decide
  have hkp := (jW hst (by rw [hk]; exact h14)).2 (Or.inl ((fo.2.2.2.2.2.2 hst (by rw [hk]; exact h14)).2.2.2.2 (by rw [hk]; exact h21)))
  obtain ⟨rfl, rfl⟩ := hv (Or.inl hh)
  refine ⟨j1, nm_r jr ⟨j2, br_f jn ⟨j2, j2, nm_r jm ⟨j2, nm_r jk ⟨j3, nm_r jt ⟨j3, nm_r jo ⟨j4, ?_⟩⟩⟩⟩⟩⟩⟩
  rw [jK]
  refine br_f h21 ⟨j4, br_f h14 (br_f (by rw [hhw, hh]; decide) (br_t (hhw.trans hh) (br_f (by decide) (br_f (by decide) ⟨j3, j3, ?_⟩))))⟩
  rw [hkp.1, hkp.2]
  refine ⟨j4, ?_⟩
  rw [jK]
  refine br_f h6 ⟨j4, br_f h23 ⟨j4, br_f h12 ?_⟩⟩
  have fin : wY_both_159 post q.1 q.2.1 q.2.2.1 q.2.2.2.1 (nI V.2.2.2.2) (nI F.2.2) (nI G.2.2.2) (nI (a :: A').length) bg tk ch hw M.2.2.1 M.2.2.2 (nI sp) E.1 E.2.1 E.2.2.1 E.2.2.2 (nI N.2.2) q.2.2.2.2.1 q.2.2.2.2.2.1 q.2.2.2.2.2.2.1 q.2.2.2.2.2.2.2.1 q.2.2.2.2.2.2.2.2.1 q.2.2.2.2.2.2.2.2.2.1 q.2.2.2.2.2.2.2.2.2.2.1 q.2.2.2.2.2.2.2.2.2.2.2.1 q.2.2.2.2.2.2.2.2.2.2.2.2.1 q.2.2.2.2.2.2.2.2.2.2.2.2.2.1 q.2.2.2.2.2.2.2.2.2.2.2.2.2.2 V.1 V.2.1 V.2.2.1 V.2.2.2.1 F.1 F.2.1 G.1 gb gh G.2.2.1 G.2.1 ro (upd mn (yr_row a) (nI (gk_yl L))) wt wo wc ws wh wv N.1 N.2.1 := by
    exact yf_top (M' := (false, 1, 1, (-3 : Int32).toInt64)) (L2 := L) (post := post) (V' := V) (F' := F) (N' := N) (sp' := sp) (st' := G.1) (cl' := G.2.1) (gy' := G.2.2.1) B (fun _ _ z => z) pk_us (fun r h => pk_un h) (fun z => z) yf_me hp
  by_cases n1 : gk_nu f.2.2.2.2.1
  · have n2 : ¬ gk_nu M.2.2.1 := fun z => hn ⟨n1, z⟩
    have g143 : wY_both_143 post (nI f.1) f.2.2.2.2.1 f.2.2.2.2.2 q.1 q.2.1 q.2.2.1 q.2.2.2.1 (nI V.2.2.2.2) (nI F.2.2) (nI G.2.2.2) (nI (a :: A').length) bg tk ch hw M.2.2.1 M.2.2.2 (nI sp) E.1 E.2.1 E.2.2.1 E.2.2.2 (nI N.2.2) q.2.2.2.2.1 q.2.2.2.2.2.1 q.2.2.2.2.2.2.1 q.2.2.2.2.2.2.2.1 q.2.2.2.2.2.2.2.2.1 q.2.2.2.2.2.2.2.2.2.1 q.2.2.2.2.2.2.2.2.2.2.1 q.2.2.2.2.2.2.2.2.2.2.2.1 q.2.2.2.2.2.2.2.2.2.2.2.2.1 q.2.2.2.2.2.2.2.2.2.2.2.2.2.1 q.2.2.2.2.2.2.2.2.2.2.2.2.2.2 V.1 V.2.1 V.2.2.1 V.2.2.2.1 F.1 F.2.1 G.1 gb gh G.2.2.1 G.2.1 ro (upd mn (yr_row a) (nI (gk_yl L))) wt wo wc ws wh wv N.1 N.2.1 :=
      br_f (fun z => n2 (Or.inl z)) (br_f (fun z => n2 (Or.inr z)) fin)
    refine br_c (fun _ => g143) (fun e => br_c (fun _ => g143) (fun d => ?_))
    exact absurd n1 (fun c => by rcases c with c | c; exact e c; exact d c)
  · exact br_f (fun z => n1 (Or.inl z)) (br_f (fun z => n1 (Or.inr z)) fin)
theorem yg_nn {bg tk ch hw : Int32} {gb gh ro mn wt wo wc wh ws : Nat → Int32} {wv : Nat → Int64} (hn : gk_nu f.2.2.2.2.1 ∧ gk_nu M.2.2.1)
    (h : wY_both_168 post (nI f.1) f.2.2.2.2.1 f.2.2.2.2.2 q.1 q.2.1 q.2.2.1 q.2.2.2.1 (nI V.2.2.2.2) (nI F.2.2) (nI G.2.2.2) (nI (a :: A').length) bg tk ch hw M.2.2.1 M.2.2.2 (nI sp) E.1 E.2.1 E.2.2.1 E.2.2.2 (nI N.2.2) q.2.2.2.2.1 q.2.2.2.2.2.1 q.2.2.2.2.2.2.1 q.2.2.2.2.2.2.2.1 q.2.2.2.2.2.2.2.2.1 q.2.2.2.2.2.2.2.2.2.1 q.2.2.2.2.2.2.2.2.2.2.1 q.2.2.2.2.2.2.2.2.2.2.2.1 q.2.2.2.2.2.2.2.2.2.2.2.2.1 q.2.2.2.2.2.2.2.2.2.2.2.2.2.1 q.2.2.2.2.2.2.2.2.2.2.2.2.2.2 V.1 V.2.1 V.2.2.1 V.2.2.2.1 F.1 F.2.1 G.1 gb gh G.2.2.1 G.2.1 ro (upd mn (yr_row a) (nI (gk_yl L))) wt wo wc ws wh wv N.1 N.2.1) :
    (f.2.2.2.2.1 = 1 → wY_both_143 post (nI f.1) f.2.2.2.2.1 f.2.2.2.2.2 q.1 q.2.1 q.2.2.1 q.2.2.2.1 (nI V.2.2.2.2) (nI F.2.2) (nI G.2.2.2) (nI (a :: A').length) bg tk ch hw M.2.2.1 M.2.2.2 (nI sp) E.1 E.2.1 E.2.2.1 E.2.2.2 (nI N.2.2) q.2.2.2.2.1 q.2.2.2.2.2.1 q.2.2.2.2.2.2.1 q.2.2.2.2.2.2.2.1 q.2.2.2.2.2.2.2.2.1 q.2.2.2.2.2.2.2.2.2.1 q.2.2.2.2.2.2.2.2.2.2.1 q.2.2.2.2.2.2.2.2.2.2.2.1 q.2.2.2.2.2.2.2.2.2.2.2.2.1 q.2.2.2.2.2.2.2.2.2.2.2.2.2.1 q.2.2.2.2.2.2.2.2.2.2.2.2.2.2 V.1 V.2.1 V.2.2.1 V.2.2.2.1 F.1 F.2.1 G.1 gb gh G.2.2.1 G.2.1 ro (upd mn (yr_row a) (nI (gk_yl L))) wt wo wc ws wh wv N.1 N.2.1) ∧ (¬ f.2.2.2.2.1 = 1 → ((f.2.2.2.2.1 = 2 → wY_both_143 post (nI f.1) f.2.2.2.2.1 f.2.2.2.2.2 q.1 q.2.1 q.2.2.1 q.2.2.2.1 (nI V.2.2.2.2) (nI F.2.2) (nI G.2.2.2) (nI (a :: A').length) bg tk ch hw M.2.2.1 M.2.2.2 (nI sp) E.1 E.2.1 E.2.2.1 E.2.2.2 (nI N.2.2) q.2.2.2.2.1 q.2.2.2.2.2.1 q.2.2.2.2.2.2.1 q.2.2.2.2.2.2.2.1 q.2.2.2.2.2.2.2.2.1 q.2.2.2.2.2.2.2.2.2.1 q.2.2.2.2.2.2.2.2.2.2.1 q.2.2.2.2.2.2.2.2.2.2.2.1 q.2.2.2.2.2.2.2.2.2.2.2.2.1 q.2.2.2.2.2.2.2.2.2.2.2.2.2.1 q.2.2.2.2.2.2.2.2.2.2.2.2.2.2 V.1 V.2.1 V.2.2.1 V.2.2.2.1 F.1 F.2.1 G.1 gb gh G.2.2.1 G.2.1 ro (upd mn (yr_row a) (nI (gk_yl L))) wt wo wc ws wh wv N.1 N.2.1) ∧ (¬ f.2.2.2.2.1 = 2 → wY_both_159 post q.1 q.2.1 q.2.2.1 q.2.2.2.1 (nI V.2.2.2.2) (nI F.2.2) (nI G.2.2.2) (nI (a :: A').length) bg tk ch hw M.2.2.1 M.2.2.2 (nI sp) E.1 E.2.1 E.2.2.1 E.2.2.2 (nI N.2.2) q.2.2.2.2.1 q.2.2.2.2.2.1 q.2.2.2.2.2.2.1 q.2.2.2.2.2.2.2.1 q.2.2.2.2.2.2.2.2.1 q.2.2.2.2.2.2.2.2.2.1 q.2.2.2.2.2.2.2.2.2.2.1 q.2.2.2.2.2.2.2.2.2.2.2.1 q.2.2.2.2.2.2.2.2.2.2.2.2.1 q.2.2.2.2.2.2.2.2.2.2.2.2.2.1 q.2.2.2.2.2.2.2.2.2.2.2.2.2.2 V.1 V.2.1 V.2.2.1 V.2.2.2.1 F.1 F.2.1 G.1 gb gh G.2.2.1 G.2.1 ro (upd mn (yr_row a) (nI (gk_yl L))) wt wo wc ws wh wv N.1 N.2.1))) := by
  have g143 : wY_both_143 post (nI f.1) f.2.2.2.2.1 f.2.2.2.2.2 q.1 q.2.1 q.2.2.1 q.2.2.2.1 (nI V.2.2.2.2) (nI F.2.2) (nI G.2.2.2) (nI (a :: A').length) bg tk ch hw M.2.2.1 M.2.2.2 (nI sp) E.1 E.2.1 E.2.2.1 E.2.2.2 (nI N.2.2) q.2.2.2.2.1 q.2.2.2.2.2.1 q.2.2.2.2.2.2.1 q.2.2.2.2.2.2.2.1 q.2.2.2.2.2.2.2.2.1 q.2.2.2.2.2.2.2.2.2.1 q.2.2.2.2.2.2.2.2.2.2.1 q.2.2.2.2.2.2.2.2.2.2.2.1 q.2.2.2.2.2.2.2.2.2.2.2.2.1 q.2.2.2.2.2.2.2.2.2.2.2.2.2.1 q.2.2.2.2.2.2.2.2.2.2.2.2.2.2 V.1 V.2.1 V.2.2.1 V.2.2.2.1 F.1 F.2.1 G.1 gb gh G.2.2.1 G.2.1 ro (upd mn (yr_row a) (nI (gk_yl L))) wt wo wc ws wh wv N.1 N.2.1 := by
    refine br_c (fun _ => h) (fun e => br_c (fun _ => h) (fun d => ?_))
    exact absurd hn.2 (fun c => by rcases c with c | c; exact e c; exact d c)
  refine br_c (fun _ => g143) (fun e => br_c (fun _ => g143) (fun d => ?_))
  exact absurd hn.1 (fun c => by rcases c with c | c; exact e c; exact d c)
theorem yg_less (hw0 : gw_S w) (hq : yq_S w q) (I : gk_I w M S (a :: A') V F G nc sp) (hR : yr_R w q E M S (a :: A') V F G N sp v) (hSa : S a = f :: L) (hb : M.1 = false) (hh : M.2.1 = 0) (hst : f.2.1 = 2) (hk : gw_K w f.1 = 11) (hn : gk_nu f.2.2.2.2.1 ∧ gk_nu M.2.2.1)
    (hp : ∀ v', yr_R w q E (false, 0, 1, (if f.2.2.2.2.2 < M.2.2.2 then 1 else 0)) (gk_su S a L) (a :: A') V F G N sp v' → post v') : wpY_pass post v := by
  obtain ⟨bg, tk, ch, hw, so, va, gb, gh, ro, mn, wt, wo, wc, wh, ws, wv, rfl, hP⟩ := hR
  have B := yo_mk hw0 I hSa hP
  have fo := xs_fo I hSa
  obtain ⟨hbg, hhw, hv⟩ := hP.1.2 hb
  obtain ⟨j1, jr, j2, jn, jm, jk, j3, jt, jo, j4, jc, jK, jW⟩ := yp_in hw0 hq B fo.1 (Or.inr hst) hk (sg := 1) (by rw [hst])
  have hkp := (jW hst (by rw [hk]; decide)).2 (Or.inl ((fo.2.2.2.2.2.2 hst (by rw [hk]; decide)).2.2.2.2 (by rw [hk]; decide)))
  obtain ⟨rfl, rfl⟩ := hv (Or.inl hh)
  refine ⟨j1, nm_r jr ⟨j2, br_f jn ⟨j2, j2, nm_r jm ⟨j2, nm_r jk ⟨j3, nm_r jt ⟨j3, nm_r jo ⟨j4, ?_⟩⟩⟩⟩⟩⟩⟩
  rw [jK]
  refine br_f (by decide) ⟨j4, br_f (by decide) (br_f (by rw [hhw, hh]; decide) (br_t (hhw.trans hh) (br_f (by decide) (br_f (by decide) ⟨j3, j3, ?_⟩))))⟩
  rw [hkp.1, hkp.2]
  refine ⟨j4, ?_⟩
  rw [jK]
  refine br_f (by decide) ⟨j4, br_f (by decide) ⟨j4, br_f (by decide) ?_⟩⟩
  refine yg_nn hn ⟨j4, br_t jK (br_c (fun z => ?_) (fun z => ?_))⟩
  · rw [if_neg (Int64.not_lt.mpr z)] at hp
    exact yf_top (M' := (false, 0, 1, 0)) (L2 := L) (post := post) (V' := V) (F' := F) (N' := N) (sp' := sp) (st' := G.1) (cl' := G.2.1) (gy' := G.2.2.1) B (fun _ _ z => z) pk_us (fun r h => pk_un h) (fun z => z) yf_me hp
  · rw [if_pos (Int64.not_le.mp z)] at hp
    exact yf_top (M' := (false, 0, 1, 1)) (L2 := L) (post := post) (V' := V) (F' := F) (N' := N) (sp' := sp) (st' := G.1) (cl' := G.2.1) (gy' := G.2.2.1) B (fun _ _ z => z) pk_us (fun r h => pk_un h) (fun z => z) yf_me hp
theorem yg_div0 (hw0 : gw_S w) (hq : yq_S w q) (I : gk_I w M S (a :: A') V F G nc sp) (hR : yr_R w q E M S (a :: A') V F G N sp v) (hSa : S a = f :: L) (hb : M.1 = false) (hh : M.2.1 = 0) (hst : f.2.1 = 2) (hk : gw_K w f.1 = 10) (hn : gk_nu f.2.2.2.2.1 ∧ gk_nu M.2.2.1) (h0 : M.2.2.2 = 0)
    (hp : ∀ v', yr_R w q E (false, 1, 1, (-1 : Int32).toInt64) (gk_su S a L) (a :: A') V F G N sp v' → post v') : wpY_pass post v := by
  obtain ⟨bg, tk, ch, hw, so, va, gb, gh, ro, mn, wt, wo, wc, wh, ws, wv, rfl, hP⟩ := hR
  have B := yo_mk hw0 I hSa hP
  have fo := xs_fo I hSa
  obtain ⟨hbg, hhw, hv⟩ := hP.1.2 hb
  obtain ⟨j1, jr, j2, jn, jm, jk, j3, jt, jo, j4, jc, jK, jW⟩ := yp_in hw0 hq B fo.1 (Or.inr hst) hk (sg := 1) (by rw [hst])
  have hkp := (jW hst (by rw [hk]; decide)).2 (Or.inl ((fo.2.2.2.2.2.2 hst (by rw [hk]; decide)).2.2.2.2 (by rw [hk]; decide)))
  obtain ⟨rfl, rfl⟩ := hv (Or.inl hh)
  refine ⟨j1, nm_r jr ⟨j2, br_f jn ⟨j2, j2, nm_r jm ⟨j2, nm_r jk ⟨j3, nm_r jt ⟨j3, nm_r jo ⟨j4, ?_⟩⟩⟩⟩⟩⟩⟩
  rw [jK]
  refine br_f (by decide) ⟨j4, br_f (by decide) (br_f (by rw [hhw, hh]; decide) (br_t (hhw.trans hh) (br_f (by decide) (br_f (by decide) ⟨j3, j3, ?_⟩))))⟩
  rw [hkp.1, hkp.2]
  refine ⟨j4, ?_⟩
  rw [jK]
  refine br_f (by decide) ⟨j4, br_f (by decide) ⟨j4, br_f (by decide) ?_⟩⟩
  have fin : ∀ x6 : Int32, wY_both_230 post x6 M.2.2.2 f.2.2.2.2.2 10 q.1 q.2.1 q.2.2.1 q.2.2.2.1 (nI V.2.2.2.2) (nI F.2.2) (nI G.2.2.2) (nI (a :: A').length) bg tk ch hw M.2.2.1 M.2.2.2 (nI sp) E.1 E.2.1 E.2.2.1 E.2.2.2 (nI N.2.2) q.2.2.2.2.1 q.2.2.2.2.2.1 q.2.2.2.2.2.2.1 q.2.2.2.2.2.2.2.1 q.2.2.2.2.2.2.2.2.1 q.2.2.2.2.2.2.2.2.2.1 q.2.2.2.2.2.2.2.2.2.2.1 q.2.2.2.2.2.2.2.2.2.2.2.1 q.2.2.2.2.2.2.2.2.2.2.2.2.1 q.2.2.2.2.2.2.2.2.2.2.2.2.2.1 q.2.2.2.2.2.2.2.2.2.2.2.2.2.2 V.1 V.2.1 V.2.2.1 V.2.2.2.1 F.1 F.2.1 G.1 gb gh G.2.2.1 G.2.1 ro (upd mn (yr_row a) (nI (gk_yl L))) wt wo wc ws wh wv N.1 N.2.1 := by
    intro x6
    refine br_t (by decide) (br_t h0 ?_)
    exact yf_top (M' := (false, 1, 1, (-1 : Int32).toInt64)) (L2 := L) (post := post) (V' := V) (F' := F) (N' := N) (sp' := sp) (st' := G.1) (cl' := G.2.1) (gy' := G.2.2.1) B (fun _ _ z => z) pk_us (fun r h => pk_un h) (fun z => z) yf_me hp
  refine yg_nn hn ⟨j4, br_f (by rw [jK]; decide) ⟨j4, ?_⟩⟩
  rw [jK]
  exact br_c (fun _ => br_c (fun _ => fin 1) (fun _ => fin 0)) (fun _ => fin 0)
theorem yg_calc (hw0 : gw_S w) (hq : yq_S w q) (I : gk_I w M S (a :: A') V F G nc sp) (hR : yr_R w q E M S (a :: A') V F G N sp v) (hSa : S a = f :: L) (hb : M.1 = false) (hh : M.2.1 = 0) (hst : f.2.1 = 2) {kd : Int32} (hk : gw_K w f.1 = kd) (hop : gk_op4 kd) (h10 : kd = 10 → M.2.2.2 ≠ 0) (hn : gk_nu f.2.2.2.2.1 ∧ gk_nu M.2.2.1)
    (hp1 : gk_ov kd f.2.2.2.2.2 M.2.2.2 → ∀ v', yr_R w q E (false, 1, 1, (-2 : Int32).toInt64) (gk_su S a L) (a :: A') V F G N sp v' → post v')
    (hp0 : ¬ gk_ov kd f.2.2.2.2.2 M.2.2.2 → ∀ v', yr_R w q E (false, 0, gk_rs f.2.2.2.2.1 M.2.2.1 (gk_res kd f.2.2.2.2.2 M.2.2.2), gk_res kd f.2.2.2.2.2 M.2.2.2) (gk_su S a L) (a :: A') V F G N sp v' → post v') : wpY_pass post v := by
  obtain ⟨bg, tk, ch, hw, so, va, gb, gh, ro, mn, wt, wo, wc, wh, ws, wv, rfl, hP⟩ := hR
  have B := yo_mk hw0 I hSa hP
  have fo := xs_fo I hSa
  obtain ⟨hbg, hhw, hv⟩ := hP.1.2 hb
  obtain ⟨j1, jr, j2, jn, jm, jk, j3, jt, jo, j4, jc, jK, jW⟩ := yp_in hw0 hq B fo.1 (Or.inr hst) hk (sg := 1) (by rw [hst])
  have hd : kd = 7 ∨ kd = 8 ∨ kd = 9 ∨ kd = 10 ∨ kd = 11 := by
    rcases hop with h | h | h | h
    · exact Or.inl h
    · exact Or.inr (Or.inl h)
    · exact Or.inr (Or.inr (Or.inl h))
    · exact Or.inr (Or.inr (Or.inr (Or.inl h)))
  have h11 : kd ≠ 11 := by rcases hop with rfl | rfl | rfl | rfl <;> decide
  have h14 : kd ≠ 14 := by rcases hd with rfl | rfl | rfl | rfl | rfl <;> decide
  have h21 : kd ≠ 21 := by rcases hd with rfl | rfl | rfl | rfl | rfl <;> decide
  have h6 : kd ≠ 6 := by rcases hd with rfl | rfl | rfl | rfl | rfl <;> decide
  have h23 : kd ≠ 23 := by rcases hd with rfl | rfl | rfl | rfl | rfl <;> decide
  have h12 : kd ≠ 12 := by rcases hd with rfl | rfl | rfl | rfl | rfl <;> decide
  have hkp := (jW hst (by rw [hk]; exact h14)).2 (Or.inl ((fo.2.2.2.2.2.2 hst (by rw [hk]; exact h14)).2.2.2.2 (by rw [hk]; exact h21)))
  obtain ⟨rfl, rfl⟩ := hv (Or.inl hh)
  refine ⟨j1, nm_r jr ⟨j2, br_f jn ⟨j2, j2, nm_r jm ⟨j2, nm_r jk ⟨j3, nm_r jt ⟨j3, nm_r jo ⟨j4, ?_⟩⟩⟩⟩⟩⟩⟩
  rw [jK]
  refine br_f h21 ⟨j4, br_f h14 (br_f (by rw [hhw, hh]; decide) (br_t (hhw.trans hh) (br_f (by decide) (br_f (by decide) ⟨j3, j3, ?_⟩))))⟩
  rw [hkp.1, hkp.2]
  refine ⟨j4, ?_⟩
  rw [jK]
  refine br_f h6 ⟨j4, br_f h23 ⟨j4, br_f h12 ?_⟩⟩
  have fin : ∀ x6 : Int32, ((x6 = 1 ∧ f.2.2.2.2.1 = 1 ∧ M.2.2.1 = 1) ∨ (x6 = 0 ∧ ¬ (f.2.2.2.2.1 = 1 ∧ M.2.2.1 = 1))) → wY_both_230 post x6 M.2.2.2 f.2.2.2.2.2 kd q.1 q.2.1 q.2.2.1 q.2.2.2.1 (nI V.2.2.2.2) (nI F.2.2) (nI G.2.2.2) (nI (a :: A').length) bg tk ch hw M.2.2.1 M.2.2.2 (nI sp) E.1 E.2.1 E.2.2.1 E.2.2.2 (nI N.2.2) q.2.2.2.2.1 q.2.2.2.2.2.1 q.2.2.2.2.2.2.1 q.2.2.2.2.2.2.2.1 q.2.2.2.2.2.2.2.2.1 q.2.2.2.2.2.2.2.2.2.1 q.2.2.2.2.2.2.2.2.2.2.1 q.2.2.2.2.2.2.2.2.2.2.2.1 q.2.2.2.2.2.2.2.2.2.2.2.2.1 q.2.2.2.2.2.2.2.2.2.2.2.2.2.1 q.2.2.2.2.2.2.2.2.2.2.2.2.2.2 V.1 V.2.1 V.2.2.1 V.2.2.2.1 F.1 F.2.1 G.1 gb gh G.2.2.1 G.2.1 ro (upd mn (yr_row a) (nI (gk_yl L))) wt wo wc ws wh wv N.1 N.2.1 := by
    intro x6 h6
    have g19 : wY_calculate_19 post kd f.2.2.2.2.2 M.2.2.2 x6 q.1 q.2.1 q.2.2.1 q.2.2.2.1 (nI V.2.2.2.2) (nI F.2.2) (nI G.2.2.2) (nI (a :: A').length) bg tk ch hw M.2.2.1 M.2.2.2 (nI sp) E.1 E.2.1 E.2.2.1 E.2.2.2 (nI N.2.2) q.2.2.2.2.1 q.2.2.2.2.2.1 q.2.2.2.2.2.2.1 q.2.2.2.2.2.2.2.1 q.2.2.2.2.2.2.2.2.1 q.2.2.2.2.2.2.2.2.2.1 q.2.2.2.2.2.2.2.2.2.2.1 q.2.2.2.2.2.2.2.2.2.2.2.1 q.2.2.2.2.2.2.2.2.2.2.2.2.1 q.2.2.2.2.2.2.2.2.2.2.2.2.2.1 q.2.2.2.2.2.2.2.2.2.2.2.2.2.2 V.1 V.2.1 V.2.2.1 V.2.2.2.1 F.1 F.2.1 G.1 gb gh G.2.2.1 G.2.1 ro (upd mn (yr_row a) (nI (gk_yl L))) wt wo wc ws wh wv N.1 N.2.1 := by
      refine ym_19 hop h10 (fun o r => br_f (by decide) ?_) (fun o => br_t rfl ?_)
      · exact yf_top (M' := (false, 1, 1, (-2 : Int32).toInt64)) (L2 := L) (post := post) (V' := V) (F' := F) (N' := N) (sp' := sp) (st' := G.1) (cl' := G.2.1) (gy' := G.2.2.1) B (fun _ _ z => z) pk_us (fun r h => pk_un h) (fun z => z) yf_me (hp1 o)
      · have hp := hp0 o
        generalize gk_res kd f.2.2.2.2.2 M.2.2.2 = r at hp ⊢
        unfold gk_rs at hp
        rcases h6 with ⟨e6, n1, n2⟩ | ⟨e6, n1⟩
        · subst e6
          refine br_f (by decide) (br_c (fun y => ?_) (fun y => ?_))
          · rw [if_pos ⟨n1, n2, y⟩] at hp
            exact yf_top (M' := (false, 0, 1, r)) (L2 := L) (post := post) (V' := V) (F' := F) (N' := N) (sp' := sp) (st' := G.1) (cl' := G.2.1) (gy' := G.2.2.1) B (fun _ _ z => z) pk_us (fun r h => pk_un h) (fun z => z) yf_me hp
          · rw [if_neg (fun c => y c.2.2)] at hp
            exact yf_top (M' := (false, 0, 2, r)) (L2 := L) (post := post) (V' := V) (F' := F) (N' := N) (sp' := sp) (st' := G.1) (cl' := G.2.1) (gy' := G.2.2.1) B (fun _ _ z => z) pk_us (fun r h => pk_un h) (fun z => z) yf_me hp
        · subst e6
          rw [if_neg (fun c => n1 ⟨c.1, c.2.1⟩)] at hp
          refine br_t rfl ?_
          exact yf_top (M' := (false, 0, 2, r)) (L2 := L) (post := post) (V' := V) (F' := F) (N' := N) (sp' := sp) (st' := G.1) (cl' := G.2.1) (gy' := G.2.2.1) B (fun _ _ z => z) pk_us (fun r h => pk_un h) (fun z => z) yf_me hp
    refine br_c (fun z => br_f (h10 z) g19) (fun z => g19)
  refine yg_nn hn ⟨j4, br_f (by rw [jK]; exact h11) ⟨j4, ?_⟩⟩
  rw [jK]
  exact br_c (fun y1 => br_c (fun y2 => fin 1 (Or.inl ⟨rfl, y1, y2⟩)) (fun y2 => fin 0 (Or.inr ⟨rfl, fun c => y2 c.2⟩))) (fun y1 => fin 0 (Or.inr ⟨rfl, fun c => y1 c.1⟩))
end
end
section
section
variable {w : gw_T} {q : yq_T} {E : ye_T} {M M' : gm_T} {S : Nat → List gf_T} {a : Nat} {A' : List Nat} {V : gv_T} {F : gp_T} {G : gg_T} {N : gn_T} {nc sp sp2 : Nat} {v : SY} {f : gf_T} {L : List gf_T} {post : SY → Prop}
variable {e0 s0 k1 k2 : Int32} {n0 k3 : Int64}
theorem yb_num (hw0 : gw_S w) (hq : yq_S w q) (I : gk_I w M S (a :: A') V F G nc sp) (hR : yr_R w q E M S (a :: A') V F G N sp2 v) (hSa : S a = f :: L) (hst : f.2.1 = 0) (hb : M.1 = true) (hk : gw_K w f.1 = 0) (hp : ∀ v', yr_R w q E (false, 0, 1, (gw_v w f.1).toInt64) (gk_su S a L) (a :: A') V F G N sp2 v' → post v') : wpY_begin post v := by
  obtain ⟨bg, tk, ch, hw, so, va, gb, gh, ro, mn, wt, wo, wc, wh, ws, wv, rfl, hP⟩ := hR
  have B := yo_mk hw0 I hSa hP
  have fo := xs_fo I hSa
  obtain ⟨rfl, hmt⟩ := hP.1.1 hb
  obtain ⟨rfl, rfl⟩ := hmt a A' f L rfl hSa
  have hmn0 := yo_mn B
  rw [gk_yln (by omega)] at hmn0
  have hn := hw0.2.2.1
  have ef : (nI f.1).toNatClampNeg = f.1 := nI_clamp (by have := fo.1; omega)
  have j4 : vp_in (nI f.1) 48 := vp_in_nI (by have := fo.1; omega) (by decide)
  have jK : q.2.2.2.2.2.2.1 (nI f.1).toNatClampNeg = gw_K w f.1 := by rw [ef]; exact (hq.1 f.1 fo.1).1
  rw [hk] at jK
  have jV : q.2.2.2.2.2.2.2.1 (nI f.1).toNatClampNeg = gw_v w f.1 := by rw [ef]; exact (hq.1 f.1 fo.1).2.1
  refine ⟨j4, nm_r jK ?_⟩
  repeat (refine br_f (by decide) ?_)
  refine br_t (by decide) ⟨j4, ?_⟩
  rw [jV]
  exact yf_top (M' := (false, 0, 1, (gw_v w f.1).toInt64)) (L2 := L) (post := post) (V' := V) (F' := F) (N' := N) (sp' := sp2) (st' := G.1) (cl' := G.2.1) (gy' := G.2.2.1) B (fun _ _ z => z) hmn0 (fun _ _ => rfl) (fun z => z) yf_me hp
theorem yb_nil (hw0 : gw_S w) (hq : yq_S w q) (I : gk_I w M S (a :: A') V F G nc sp) (hR : yr_R w q E M S (a :: A') V F G N sp2 v) (hSa : S a = f :: L) (hst : f.2.1 = 0) (hb : M.1 = true) (hk : gw_K w f.1 = 1) (hp : ∀ v', yr_R w q E (false, 0, 0, 0) (gk_su S a L) (a :: A') V F G N sp2 v' → post v') : wpY_begin post v := by
  obtain ⟨bg, tk, ch, hw, so, va, gb, gh, ro, mn, wt, wo, wc, wh, ws, wv, rfl, hP⟩ := hR
  have B := yo_mk hw0 I hSa hP
  have fo := xs_fo I hSa
  obtain ⟨rfl, hmt⟩ := hP.1.1 hb
  obtain ⟨rfl, rfl⟩ := hmt a A' f L rfl hSa
  have hmn0 := yo_mn B
  rw [gk_yln (by omega)] at hmn0
  have hn := hw0.2.2.1
  have ef : (nI f.1).toNatClampNeg = f.1 := nI_clamp (by have := fo.1; omega)
  have j4 : vp_in (nI f.1) 48 := vp_in_nI (by have := fo.1; omega) (by decide)
  have jK : q.2.2.2.2.2.2.1 (nI f.1).toNatClampNeg = gw_K w f.1 := by rw [ef]; exact (hq.1 f.1 fo.1).1
  rw [hk] at jK
  refine ⟨j4, nm_r jK ?_⟩
  repeat (refine br_f (by decide) ?_)
  refine br_t (by decide) ?_
  exact yf_top (M' := (false, 0, 0, 0)) (L2 := L) (post := post) (V' := V) (F' := F) (N' := N) (sp' := sp2) (st' := G.1) (cl' := G.2.1) (gy' := G.2.2.1) B (fun _ _ z => z) hmn0 (fun _ _ => rfl) (fun z => z) yf_me hp
theorem yb_brk (hw0 : gw_S w) (hq : yq_S w q) (I : gk_I w M S (a :: A') V F G nc sp) (hR : yr_R w q E M S (a :: A') V F G N sp2 v) (hSa : S a = f :: L) (hst : f.2.1 = 0) (hb : M.1 = true) (hk : gw_K w f.1 = 16) (hp : ∀ v', yr_R w q E (false, 2, 0, 0) (gk_su S a L) (a :: A') V F G N sp2 v' → post v') : wpY_begin post v := by
  obtain ⟨bg, tk, ch, hw, so, va, gb, gh, ro, mn, wt, wo, wc, wh, ws, wv, rfl, hP⟩ := hR
  have B := yo_mk hw0 I hSa hP
  have fo := xs_fo I hSa
  obtain ⟨rfl, hmt⟩ := hP.1.1 hb
  obtain ⟨rfl, rfl⟩ := hmt a A' f L rfl hSa
  have hmn0 := yo_mn B
  rw [gk_yln (by omega)] at hmn0
  have hn := hw0.2.2.1
  have ef : (nI f.1).toNatClampNeg = f.1 := nI_clamp (by have := fo.1; omega)
  have j4 : vp_in (nI f.1) 48 := vp_in_nI (by have := fo.1; omega) (by decide)
  have jK : q.2.2.2.2.2.2.1 (nI f.1).toNatClampNeg = gw_K w f.1 := by rw [ef]; exact (hq.1 f.1 fo.1).1
  rw [hk] at jK
  refine ⟨j4, nm_r jK ?_⟩
  repeat (refine br_f (by decide) ?_)
  refine br_t (by decide) ?_
  exact yf_top (M' := (false, 2, 0, 0)) (L2 := L) (post := post) (V' := V) (F' := F) (N' := N) (sp' := sp2) (st' := G.1) (cl' := G.2.1) (gy' := G.2.2.1) B (fun _ _ z => z) hmn0 (fun _ _ => rfl) (fun z => z) yf_me hp
theorem yb_nxt (hw0 : gw_S w) (hq : yq_S w q) (I : gk_I w M S (a :: A') V F G nc sp) (hR : yr_R w q E M S (a :: A') V F G N sp2 v) (hSa : S a = f :: L) (hst : f.2.1 = 0) (hb : M.1 = true) (hk : gw_K w f.1 = 17) (hp : ∀ v', yr_R w q E (false, 3, 0, 0) (gk_su S a L) (a :: A') V F G N sp2 v' → post v') : wpY_begin post v := by
  obtain ⟨bg, tk, ch, hw, so, va, gb, gh, ro, mn, wt, wo, wc, wh, ws, wv, rfl, hP⟩ := hR
  have B := yo_mk hw0 I hSa hP
  have fo := xs_fo I hSa
  obtain ⟨rfl, hmt⟩ := hP.1.1 hb
  obtain ⟨rfl, rfl⟩ := hmt a A' f L rfl hSa
  have hmn0 := yo_mn B
  rw [gk_yln (by omega)] at hmn0
  have hn := hw0.2.2.1
  have ef : (nI f.1).toNatClampNeg = f.1 := nI_clamp (by have := fo.1; omega)
  have j4 : vp_in (nI f.1) 48 := vp_in_nI (by have := fo.1; omega) (by decide)
  have jK : q.2.2.2.2.2.2.1 (nI f.1).toNatClampNeg = gw_K w f.1 := by rw [ef]; exact (hq.1 f.1 fo.1).1
  rw [hk] at jK
  refine ⟨j4, nm_r jK ?_⟩
  repeat (refine br_f (by decide) ?_)
  refine br_t (by decide) ?_
  exact yf_top (M' := (false, 3, 0, 0)) (L2 := L) (post := post) (V' := V) (F' := F) (N' := N) (sp' := sp2) (st' := G.1) (cl' := G.2.1) (gy' := G.2.2.1) B (fun _ _ z => z) hmn0 (fun _ _ => rfl) (fun z => z) yf_me hp
theorem yb_var (hw0 : gw_S w) (hq : yq_S w q) (I : gk_I w M S (a :: A') V F G nc sp) (hR : yr_R w q E M S (a :: A') V F G N sp2 v) (hSa : S a = f :: L) (hst : f.2.1 = 0) (hb : M.1 = true) (hk : gw_K w f.1 = 2) {b : Nat} (hbs : b ∈ gw_sc w f.1) (hmn : gw_mn w f.1 = nI b)
    (hp : ∀ v', yr_R w q E (false, 0, V.2.2.1 (gk_fi V b (gw_sc w f.1) f.2.2.1), V.2.2.2.1 (gk_fi V b (gw_sc w f.1) f.2.2.1)) (gk_su S a L) (a :: A') V F G N sp2 v' → post v') : wpY_begin post v := by
  obtain ⟨bg, tk, ch, hw, so, va, gb, gh, ro, mn, wt, wo, wc, wh, ws, wv, rfl, hP⟩ := hR
  have B := yo_mk hw0 I hSa hP
  have fo := xs_fo I hSa
  obtain ⟨rfl, hmt⟩ := hP.1.1 hb
  obtain ⟨rfl, rfl⟩ := hmt a A' f L rfl hSa
  have hmn0 := yo_mn B
  rw [gk_yln (by omega)] at hmn0
  have hn := hw0.2.2.1
  have ef : (nI f.1).toNatClampNeg = f.1 := nI_clamp (by have := fo.1; omega)
  have j4 : vp_in (nI f.1) 48 := vp_in_nI (by have := fo.1; omega) (by decide)
  have jK : q.2.2.2.2.2.2.1 (nI f.1).toNatClampNeg = gw_K w f.1 := by rw [ef]; exact (hq.1 f.1 fo.1).1
  rw [hk] at jK
  have hvc := xg_vc I
  have hsc := hw0.2.2.2.2.2.2.2.2.2.2.2 f.1 fo.1
  have hb48 : b < 48 := by have := hsc.2 b hbs; have := fo.1; omega
  have hfi := gk_fil (b := b) (by omega) _ _ fo.2.1 hbs
  have jM : q.2.2.2.2.2.2.2.2.2.2.2.2.1 (nI f.1).toNatClampNeg = nI b := by
    rw [ef, ← hmn]
    exact (hq.1 f.1 fo.1).2.2.1
  refine ⟨j4, nm_r jK ?_⟩
  repeat (refine br_f (by decide) ?_)
  refine br_t (by decide) ⟨j4, ?_⟩
  rw [jM]
  refine ym_find hvc.1 hb48 rfl rfl fo.2.1 hbs (fun x hx => by have := hsc.2 x hx; have := fo.1; omega) ?_
  have i7 : vp_in (nI (gk_fi V b (gw_sc w f.1) f.2.2.1)) 700 := vp_in_nI (by omega) (by decide)
  have e6 : (nI (gk_fi V b (gw_sc w f.1) f.2.2.1)).toNatClampNeg = gk_fi V b (gw_sc w f.1) f.2.2.1 := nI_clamp (by omega)
  refine ⟨i7, i7, ?_⟩
  rw [e6]
  exact yf_top (M' := (false, 0, V.2.2.1 (gk_fi V b (gw_sc w f.1) f.2.2.1), V.2.2.2.1 (gk_fi V b (gw_sc w f.1) f.2.2.1))) (L2 := L) (post := post) (V' := V) (F' := F) (N' := N) (sp' := sp2) (st' := G.1) (cl' := G.2.1) (gy' := G.2.2.1) B (fun _ _ z => z) hmn0 (fun _ _ => rfl) (fun z => z) yf_me hp
theorem yb_fn (hw0 : gw_S w) (hq : yq_S w q) (I : gk_I w M S (a :: A') V F G nc sp) (hR : yr_R w q E M S (a :: A') V F G N sp2 v) (hSa : S a = f :: L) (hst : f.2.1 = 0) (hb : M.1 = true) (hk : gw_K w f.1 = 5) (h6 : F.2.2 < 600)
    (hp : ∀ v', yr_R w q E (false, 0, 3, lN F.2.2) (gk_su S a L) (a :: A') V (upd F.1 F.2.2 (nI f.1), upd F.2.1 F.2.2 f.2.2.1, F.2.2 + 1) G N sp2 v' → post v') : wpY_begin post v := by
  obtain ⟨bg, tk, ch, hw, so, va, gb, gh, ro, mn, wt, wo, wc, wh, ws, wv, rfl, hP⟩ := hR
  have B := yo_mk hw0 I hSa hP
  have fo := xs_fo I hSa
  obtain ⟨rfl, hmt⟩ := hP.1.1 hb
  obtain ⟨rfl, rfl⟩ := hmt a A' f L rfl hSa
  have hmn0 := yo_mn B
  rw [gk_yln (by omega)] at hmn0
  have hn := hw0.2.2.1
  have ef : (nI f.1).toNatClampNeg = f.1 := nI_clamp (by have := fo.1; omega)
  have j4 : vp_in (nI f.1) 48 := vp_in_nI (by have := fo.1; omega) (by decide)
  have jK : q.2.2.2.2.2.2.1 (nI f.1).toNatClampNeg = gw_K w f.1 := by rw [ef]; exact (hq.1 f.1 fo.1).1
  rw [hk] at jK
  have i7 : vp_in (nI F.2.2) 700 := vp_in_nI (by omega) (by decide)
  have e6 : (nI F.2.2).toNatClampNeg = F.2.2 := nI_clamp (by omega)
  refine ⟨j4, nm_r jK ?_⟩
  repeat (refine br_f (by decide) ?_)
  refine br_t (by decide) ⟨i7, nm_r (e' := upd F.1 F.2.2 (nI f.1)) (by rw [e6]) ⟨i7, nm_r (e' := upd F.2.1 F.2.2 f.2.2.1) (by rw [e6]) (nm_r (nI_1 F.2.2) ?_)⟩⟩
  rw [nI_pred, nI_l (by omega)]
  exact yf_top (M' := (false, 0, 3, lN F.2.2)) (L2 := L) (post := post) (V' := V) (F' := (upd F.1 F.2.2 (nI f.1), upd F.2.1 F.2.2 f.2.2.1, F.2.2 + 1)) (N' := N) (sp' := sp2) (st' := G.1) (cl' := G.2.1) (gy' := G.2.2.1) B (fun _ _ z => z) hmn0 (fun _ _ => rfl) (fun z => z) yf_me hp
theorem yb_aw (hw0 : gw_S w) (hq : yq_S w q) (I : gk_I w M S (a :: A') V F G nc sp) (hR : yr_R w q E M S (a :: A') V F G N sp2 v) (hSa : S a = f :: L) (hst : f.2.1 = 0) (hb : M.1 = true) {k : Nat} (hk27 : k < 27) (hk : gw_K w f.1 = nI k) (h5 : nI k ≠ 5) (ho : 0 < gw_o w f.1) (hm : M'.1 = true)
    (hp : ∀ v', yr_R w q E M' (gk_su S a ((gw_c w f.1 0, 0, f.2.2.1, e0, s0, n0) :: (f.1, 1, f.2.2.1, k1, k2, k3) :: L)) (a :: A') V F G N sp2 v' → post v') : wpY_begin post v := by
  obtain ⟨bg, tk, ch, hw, so, va, gb, gh, ro, mn, wt, wo, wc, wh, ws, wv, rfl, hP⟩ := hR
  have B := yo_mk hw0 I hSa hP
  have fo := xs_fo I hSa
  obtain ⟨rfl, hmt⟩ := hP.1.1 hb
  obtain ⟨rfl, rfl⟩ := hmt a A' f L rfl hSa
  have hmn0 := yo_mn B
  rw [gk_yln (by omega)] at hmn0
  have hn := hw0.2.2.1
  have ef : (nI f.1).toNatClampNeg = f.1 := nI_clamp (by have := fo.1; omega)
  have j4 : vp_in (nI f.1) 48 := vp_in_nI (by have := fo.1; omega) (by decide)
  have jK : q.2.2.2.2.2.2.1 (nI f.1).toNatClampNeg = gw_K w f.1 := by rw [ef]; exact (hq.1 f.1 fo.1).1
  rw [hk] at jK
  have ho2 : gw_o w f.1 = gw_op (nI k) := by rw [hw0.2.2.2.1 _ fo.1, hk]
  rw [ho2] at ho
  have fin : wY_begin_208 post (nI f.1) q.1 q.2.1 q.2.2.1 q.2.2.2.1 (nI V.2.2.2.2) (nI F.2.2) (nI G.2.2.2) (nI (a :: A').length) 1 (nI f.1) f.2.2.1 hw so va (nI sp2) E.1 E.2.1 E.2.2.1 E.2.2.2 (nI N.2.2) q.2.2.2.2.1 q.2.2.2.2.2.1 q.2.2.2.2.2.2.1 q.2.2.2.2.2.2.2.1 q.2.2.2.2.2.2.2.2.1 q.2.2.2.2.2.2.2.2.2.1 q.2.2.2.2.2.2.2.2.2.2.1 q.2.2.2.2.2.2.2.2.2.2.2.1 q.2.2.2.2.2.2.2.2.2.2.2.2.1 q.2.2.2.2.2.2.2.2.2.2.2.2.2.1 q.2.2.2.2.2.2.2.2.2.2.2.2.2.2 V.1 V.2.1 V.2.2.1 V.2.2.2.1 F.1 F.2.1 G.1 gb gh G.2.2.1 G.2.1 ro mn wt wo wc ws wh wv N.1 N.2.1 :=
    yf_await (o := 0) hw0 hq B fo.1 (by rw [ho2]; exact ho) (by decide) hmn0 (fun _ _ => rfl) (fun z => absurd z (by decide)) rfl rfl hm hp
  refine ⟨j4, nm_r jK ?_⟩
  clear hp B fo hP jK hmn0 hmt hq I ho2 hk
  have c : k = 0 ∨ k = 1 ∨ k = 2 ∨ k = 3 ∨ k = 4 ∨ k = 5 ∨ k = 6 ∨ k = 7 ∨ k = 8 ∨ k = 9 ∨ k = 10 ∨ k = 11 ∨ k = 12 ∨ k = 13 ∨ k = 14 ∨ k = 15 ∨ k = 16 ∨ k = 17 ∨ k = 18 ∨ k = 19 ∨ k = 20 ∨ k = 21 ∨ k = 22 ∨ k = 23 ∨ k = 24 ∨ k = 25 ∨ k = 26 := by omega
  rcases c with rfl | rfl | rfl | rfl | rfl | rfl | rfl | rfl | rfl | rfl | rfl | rfl | rfl | rfl | rfl | rfl | rfl | rfl | rfl | rfl | rfl | rfl | rfl | rfl | rfl | rfl | rfl
  all_goals
    first
    | exact absurd ho (by decide)
    | exact absurd rfl h5
    | (repeat (refine br_f (by decide) ?_)
       exact br_t (by decide) fin)
end
section
variable {w : gw_T} {q : yq_T} {E : ye_T} {M M' : gm_T} {S : Nat → List gf_T} {a : Nat} {A' : List Nat} {V : gv_T} {F : gp_T} {G : gg_T} {N : gn_T} {nc sp : Nat} {v : SY} {post : SY → Prop}
theorem yr_Cm {K : Nat → Int32} {Z : Nat → gx_T} {mn : Nat → Int32} {P P' : Nat → Prop} {S : Nat → List gf_T} (h : yr_C K Z mn P S) (hP : ∀ s, P' s → P s) : yr_C K Z mn P' S :=
  fun s hs hp => h s hs (hP s hp)
def ye_E (F : gp_T) (h s : Int32) (x : Int64) : ye_T := (s, (if h = 1 then 1 else 0), gk_sh F s x, 1)
theorem ye_66 {tk ch h s : Int32} {x : Int64} {gb gh ro mn wt wo wc wh ws : Nat → Int32} {wv : Nat → Int64} (hf : F.2.2 ≤ 600) (hl : A'.length < 8) (hh : h = 0 ∨ h = 1) (hv : gk_VV F.2.2 G.2.2.2 s x)
    (hA : xr_A ro yr_row A') (hC : yr_C (gw_K w) (yr_Z wt wo wc wh ws wv) mn (gk_lv A' G.2.2.2) S) (hg : ∀ g, g < G.2.2.2 → G.1 g = 0 → ∀ f, S (8 + g) = [f] → gb g = nI f.1 ∧ gh g = f.2.2.1)
    (hp1 : A' ≠ [] → ∀ v', yr_R w q E (false, h, s, x) S A' V F G N sp v' → post v')
    (hp0 : A' = [] → ∀ v', yr_R w q (ye_E F h s x) (false, h, s, x) S A' V F G N sp v' → post v') : wY_bodyEnds_66 post q.1 q.2.1 q.2.2.1 q.2.2.2.1 (nI V.2.2.2.2) (nI F.2.2) (nI G.2.2.2) (nI A'.length) 0 tk ch h s x (nI sp) E.1 E.2.1 E.2.2.1 E.2.2.2 (nI N.2.2) q.2.2.2.2.1 q.2.2.2.2.2.1 q.2.2.2.2.2.2.1 q.2.2.2.2.2.2.2.1 q.2.2.2.2.2.2.2.2.1 q.2.2.2.2.2.2.2.2.2.1 q.2.2.2.2.2.2.2.2.2.2.1 q.2.2.2.2.2.2.2.2.2.2.2.1 q.2.2.2.2.2.2.2.2.2.2.2.2.1 q.2.2.2.2.2.2.2.2.2.2.2.2.2.1 q.2.2.2.2.2.2.2.2.2.2.2.2.2.2 V.1 V.2.1 V.2.2.1 V.2.2.2.1 F.1 F.2.1 G.1 gb gh G.2.2.1 G.2.1 ro mn wt wo wc ws wh wv N.1 N.2.1 := by
  cases A' with
  | nil =>
    have hp := hp0 rfl
    refine br_t (by decide) ?_
    rcases hh with rfl | rfl
    · refine br_f (by decide) ?_
      refine yg_shn (E := (s, 0, E.2.2.1, 1)) (gc := G.2.2.2) hf hv ?_
      exact hp _ ⟨0, tk, ch, 0, s, x, gb, gh, ro, mn, wt, wo, wc, wh, ws, wv, rfl, ⟨fun z => (by cases z), fun _ => ⟨rfl, rfl, fun _ => ⟨rfl, rfl⟩⟩⟩, hA, hC, hg⟩
    · refine br_t (by decide) ?_
      refine yg_shn (E := (s, 1, E.2.2.1, 1)) (gc := G.2.2.2) hf hv ?_
      exact hp _ ⟨0, tk, ch, 1, s, x, gb, gh, ro, mn, wt, wo, wc, wh, ws, wv, rfl, ⟨fun z => (by cases z), fun _ => ⟨rfl, rfl, fun _ => ⟨rfl, rfl⟩⟩⟩, hA, hC, hg⟩
  | cons b B' =>
    have hl2 : B'.length + 1 < 8 := hl
    refine br_f (nI_nle (n := B'.length + 1) (by omega) (by omega)) ?_
    exact hp1 (fun z => nomatch z) _ ⟨0, tk, ch, h, s, x, gb, gh, ro, mn, wt, wo, wc, wh, ws, wv, rfl, ⟨fun z => (by cases z), fun _ => ⟨rfl, rfl, fun _ => ⟨rfl, rfl⟩⟩⟩, hA, hC, hg⟩
theorem ye_1 (hw0 : gw_S w) (I : gk_I w M S (a :: A') V F G nc sp) (hR : yr_R w q E M S (a :: A') V F G N sp v) (hSa : S a = []) (hb : M.1 = false) (ha8 : a < 8) (hh : gk_hv M.2.1) (hvv : gk_VV F.2.2 G.2.2.2 M.2.2.1 M.2.2.2)
    (hp1 : A' ≠ [] → ∀ v', yr_R w q E (false, (if M.2.1 = 1 then 1 else 0), M.2.2) S A' V F G N sp v' → post v')
    (hp0 : A' = [] → ∀ v', yr_R w q (ye_E F (if M.2.1 = 1 then 1 else 0) M.2.2.1 M.2.2.2) (false, (if M.2.1 = 1 then 1 else 0), M.2.2) S A' V F G N sp v' → post v') : wpY_pass post v := by
  obtain ⟨bg, tk, ch, hw, so, va, gb, gh, ro, mn, wt, wo, wc, wh, ws, wv, rfl, hP⟩ := hR
  obtain ⟨rfl, hhw, hv⟩ := hP.1.2 hb
  have ha := gk_Ia I
  have hvc := xg_vc I
  have hl8 : A'.length < 8 := I.2.1.2
  have hr := yr_rl ha
  have er : (nI (yr_row a)).toNatClampNeg = yr_row a := nI_clamp (by omega)
  have hmn := (hP.2.2.1 a ha (Or.inl (List.mem_cons_self ..))).1
  rw [hSa] at hmn
  have hA := hP.2.1.2
  have hC := yr_Cm hP.2.2.1 (P' := gk_lv A' G.2.2.2) xe_lv
  refine ⟨ym_ti (d := A'.length) rfl hl8, nm_r (ym_tp (d := A'.length) rfl hl8 hP.2.1.1) ⟨vp_in_nI (by omega) (by decide), br_t (by rw [er, hmn]; rfl) ?_⟩⟩
  refine nm_r (e' := nI A'.length) (nI_pred _) ?_
  obtain ⟨rfl, rfl⟩ := hv hh
  have e8 : yr_row a = 8 + a := yr_rd ha8
  have h8 : (8 : Int32) ≤ nI (yr_row a) := by rw [e8]; exact nI_le (a := 8) (by omega) (by omega)
  refine br_t h8 (br_t h8 (br_c (fun z => ?_) (fun z => ?_)))
  · have z2 : M.2.1 = 1 := hhw.symm.trans z
    rw [if_pos z2] at hp1 hp0
    subst z
    exact ye_66 hvc.2.1 hl8 (Or.inr rfl) hvv hA hC hP.2.2.2 hp1 hp0
  · have z2 : ¬ M.2.1 = 1 := fun e => z (hhw.trans e)
    rw [if_neg z2] at hp1 hp0
    exact ye_66 hvc.2.1 hl8 (Or.inl rfl) hvv hA hC hP.2.2.2 hp1 hp0
theorem ye_2 (hw0 : gw_S w) (I : gk_I w M S (a :: A') V F G nc sp) (hR : yr_R w q E M S (a :: A') V F G N sp v) (hSa : S a = []) (hb : M.1 = false) {g : Nat} (hg : g < G.2.2.2) (hag : a = 8 + g) (hc : G.2.1 g = 0) (hh : gk_hv M.2.1) (hvv : gk_VV F.2.2 G.2.2.2 M.2.2.1 M.2.2.2)
    (hp1 : A' ≠ [] → ∀ v', yr_R w q E (false, (if M.2.1 = 1 then 1 else 0), M.2.2) S A' V F (upd G.1 g 3, G.2.1, G.2.2.1, G.2.2.2) N sp v' → post v')
    (hp0 : A' = [] → ∀ v', yr_R w q (ye_E F (if M.2.1 = 1 then 1 else 0) M.2.2.1 M.2.2.2) (false, (if M.2.1 = 1 then 1 else 0), M.2.2) S A' V F (upd G.1 g 3, G.2.1, G.2.2.1, G.2.2.2) N sp v' → post v') : wpY_pass post v := by
  obtain ⟨bg, tk, ch, hw, so, va, gb, gh, ro, mn, wt, wo, wc, wh, ws, wv, rfl, hP⟩ := hR
  obtain ⟨rfl, hhw, hv⟩ := hP.1.2 hb
  have ha := gk_Ia I
  have hvc := xg_vc I
  have hl8 : A'.length < 8 := I.2.1.2
  have hr := yr_rl ha
  have er : (nI (yr_row a)).toNatClampNeg = yr_row a := nI_clamp (by omega)
  have hmn := (hP.2.2.1 a ha (Or.inl (List.mem_cons_self ..))).1
  rw [hSa] at hmn
  have hA := hP.2.1.2
  have hC := yr_Cm hP.2.2.1 (P' := gk_lv A' G.2.2.2) xe_lv
  refine ⟨ym_ti (d := A'.length) rfl hl8, nm_r (ym_tp (d := A'.length) rfl hl8 hP.2.1.1) ⟨vp_in_nI (by omega) (by decide), br_t (by rw [er, hmn]; rfl) ?_⟩⟩
  refine nm_r (e' := nI A'.length) (nI_pred _) ?_
  obtain ⟨rfl, rfl⟩ := hv hh
  have egc : (nI g).toNatClampNeg = g := nI_clamp (by omega)
  have ig : vp_in (nI g) 8 := vp_in_nI (by omega) (by decide)
  have e8 : yr_row a = g := by rw [hag]; exact yr_rg g
  rw [e8]
  have n8 : ¬ (8 : Int32) ≤ nI g := nI_ge (b := 8) (by omega) (by decide)
  refine br_f n8 ⟨ig, nm_r (e' := upd G.1 g 3) (by rw [egc]) (br_f n8 ⟨ig, ?_⟩)⟩
  rw [egc]
  have hgg : ∀ i, i < G.2.2.2 → upd G.1 g 3 i = 0 → ∀ f, S (8 + i) = [f] → gb i = nI f.1 ∧ gh i = f.2.2.1 := fun i hi h0 => hP.2.2.2 i hi (yo_u3 (by decide) i hi h0)
  refine br_t hc (br_c (fun z => ?_) (fun z => ?_))
  · have z2 : M.2.1 = 1 := hhw.symm.trans z
    rw [if_pos z2] at hp1 hp0
    subst z
    exact ye_66 (G := (upd G.1 g 3, G.2.1, G.2.2.1, G.2.2.2)) hvc.2.1 hl8 (Or.inr rfl) hvv hA hC hgg hp1 hp0
  · have z2 : ¬ M.2.1 = 1 := fun e => z (hhw.trans e)
    rw [if_neg z2] at hp1 hp0
    exact ye_66 (G := (upd G.1 g 3, G.2.1, G.2.2.1, G.2.2.2)) hvc.2.1 hl8 (Or.inl rfl) hvv hA hC hgg hp1 hp0
theorem ye_3 (hw0 : gw_S w) (I : gk_I w M S (a :: A') V F G nc sp) (hR : yr_R w q E M S (a :: A') V F G N sp v) (hSa : S a = []) (hb : M.1 = false) {g : Nat} (hg : g < G.2.2.2) (hag : a = 8 + g) (hc : G.2.1 g = 1) (hh : M.2.1 = 1) (hvv : gk_VV F.2.2 G.2.2.2 M.2.2.1 M.2.2.2)
    (hp1 : A' ≠ [] → ∀ v', yr_R w q E (false, 1, M.2.2) S A' V F (upd G.1 g 3, G.2.1, G.2.2.1, G.2.2.2) N sp v' → post v')
    (hp0 : A' = [] → ∀ v', yr_R w q (ye_E F 1 M.2.2.1 M.2.2.2) (false, 1, M.2.2) S A' V F (upd G.1 g 3, G.2.1, G.2.2.1, G.2.2.2) N sp v' → post v') : wpY_pass post v := by
  obtain ⟨bg, tk, ch, hw, so, va, gb, gh, ro, mn, wt, wo, wc, wh, ws, wv, rfl, hP⟩ := hR
  obtain ⟨rfl, hhw, hv⟩ := hP.1.2 hb
  have ha := gk_Ia I
  have hvc := xg_vc I
  have hl8 : A'.length < 8 := I.2.1.2
  have hr := yr_rl ha
  have er : (nI (yr_row a)).toNatClampNeg = yr_row a := nI_clamp (by omega)
  have hmn := (hP.2.2.1 a ha (Or.inl (List.mem_cons_self ..))).1
  rw [hSa] at hmn
  have hA := hP.2.1.2
  have hC := yr_Cm hP.2.2.1 (P' := gk_lv A' G.2.2.2) xe_lv
  refine ⟨ym_ti (d := A'.length) rfl hl8, nm_r (ym_tp (d := A'.length) rfl hl8 hP.2.1.1) ⟨vp_in_nI (by omega) (by decide), br_t (by rw [er, hmn]; rfl) ?_⟩⟩
  refine nm_r (e' := nI A'.length) (nI_pred _) ?_
  obtain ⟨rfl, rfl⟩ := hv (Or.inr (Or.inl hh))
  have egc : (nI g).toNatClampNeg = g := nI_clamp (by omega)
  have ig : vp_in (nI g) 8 := vp_in_nI (by omega) (by decide)
  have e8 : yr_row a = g := by rw [hag]; exact yr_rg g
  rw [e8]
  have n8 : ¬ (8 : Int32) ≤ nI g := nI_ge (b := 8) (by omega) (by decide)
  refine br_f n8 ⟨ig, nm_r (e' := upd G.1 g 3) (by rw [egc]) (br_f n8 ⟨ig, ?_⟩)⟩
  rw [egc]
  have hgg : ∀ i, i < G.2.2.2 → upd G.1 g 3 i = 0 → ∀ f, S (8 + i) = [f] → gb i = nI f.1 ∧ gh i = f.2.2.1 := fun i hi h0 => hP.2.2.2 i hi (yo_u3 (by decide) i hi h0)
  have z : hw = 1 := hhw.trans hh
  refine br_f (by rw [hc]; decide) (br_t z (br_t z ?_))
  subst z
  exact ye_66 (G := (upd G.1 g 3, G.2.1, G.2.2.1, G.2.2.2)) hvc.2.1 hl8 (Or.inr rfl) hvv hA hC hgg hp1 hp0
theorem ye_4 (hw0 : gw_S w) (I : gk_I w M S (a :: A') V F G nc sp) (hR : yr_R w q E M S (a :: A') V F G N sp v) (hSa : S a = []) (hb : M.1 = false) {g : Nat} (hg : g < G.2.2.2) (hag : a = 8 + g) (hc : G.2.1 g = 1) (hh : M.2.1 ≠ 1)
    (hp1 : A' ≠ [] → ∀ v', yr_R w q E (false, 0, 0, 0) S A' V F (upd G.1 g 3, G.2.1, G.2.2.1, G.2.2.2) N sp v' → post v')
    (hp0 : A' = [] → ∀ v', yr_R w q (ye_E F 0 0 0) (false, 0, 0, 0) S A' V F (upd G.1 g 3, G.2.1, G.2.2.1, G.2.2.2) N sp v' → post v') : wpY_pass post v := by
  obtain ⟨bg, tk, ch, hw, so, va, gb, gh, ro, mn, wt, wo, wc, wh, ws, wv, rfl, hP⟩ := hR
  obtain ⟨rfl, hhw, hv⟩ := hP.1.2 hb
  have ha := gk_Ia I
  have hvc := xg_vc I
  have hl8 : A'.length < 8 := I.2.1.2
  have hr := yr_rl ha
  have er : (nI (yr_row a)).toNatClampNeg = yr_row a := nI_clamp (by omega)
  have hmn := (hP.2.2.1 a ha (Or.inl (List.mem_cons_self ..))).1
  rw [hSa] at hmn
  have hA := hP.2.1.2
  have hC := yr_Cm hP.2.2.1 (P' := gk_lv A' G.2.2.2) xe_lv
  refine ⟨ym_ti (d := A'.length) rfl hl8, nm_r (ym_tp (d := A'.length) rfl hl8 hP.2.1.1) ⟨vp_in_nI (by omega) (by decide), br_t (by rw [er, hmn]; rfl) ?_⟩⟩
  refine nm_r (e' := nI A'.length) (nI_pred _) ?_
  have egc : (nI g).toNatClampNeg = g := nI_clamp (by omega)
  have ig : vp_in (nI g) 8 := vp_in_nI (by omega) (by decide)
  have e8 : yr_row a = g := by rw [hag]; exact yr_rg g
  rw [e8]
  have n8 : ¬ (8 : Int32) ≤ nI g := nI_ge (b := 8) (by omega) (by decide)
  refine br_f n8 ⟨ig, nm_r (e' := upd G.1 g 3) (by rw [egc]) (br_f n8 ⟨ig, ?_⟩)⟩
  rw [egc]
  have hgg : ∀ i, i < G.2.2.2 → upd G.1 g 3 i = 0 → ∀ f, S (8 + i) = [f] → gb i = nI f.1 ∧ gh i = f.2.2.1 := fun i hi h0 => hP.2.2.2 i hi (yo_u3 (by decide) i hi h0)
  have z : ¬ hw = 1 := fun e => hh (hhw.symm.trans e)
  refine br_f (by rw [hc]; decide) (br_f z ?_)
  exact ye_66 (G := (upd G.1 g 3, G.2.1, G.2.2.1, G.2.2.2)) hvc.2.1 hl8 (Or.inl rfl) (Or.inl (Or.inl rfl)) hA hC hgg hp1 hp0
end
end
section
def rt_T (w : gw_T) (qx : xq_T) (qy : yq_T) (E : ye_T) (M : gm_T) (S : Nat → List gf_T) (a : Nat) (A' : List Nat) (V : gv_T) (F : gp_T) (G : gg_T) (N : gn_T) (sp k : Nat) : Prop :=
  ∃ M' S' A2 V' F' G' N', gk_I w M' S' A2 V' F' G' N'.2.2 sp ∧ gk_mu M' S' A2 sp < gk_mu M S (a :: A') sp ∧ A2 ≠ [] ∧
    (∀ u post, xr_R w qx M S (a :: A') V F G N sp u → (∀ u', xr_R w qx M' S' A2 V' F' G' N' sp u' → post u') → wpX_goOn post u (nI k)) ∧
    ((∀ v, yr_R w qy E M S (a :: A') V F G N sp v → yr_R w qy E M' S' A2 V' F' G' N' sp v) ∨
     (∀ v post, yr_R w qy E M S (a :: A') V F G N sp v → (∀ v', yr_R w qy E M' S' A2 V' F' G' N' sp v' → post v') → wpY_pass post v))
theorem rt_kinds : ∀ k, k < 27 → 0 < gw_op (nI k) → nI k ≠ 5 →
    (nI k = 3 ∨ nI k = 4 ∨ nI k = 13 ∨ nI k = 14 ∨ nI k = 15 ∨ nI k = 18 ∨ nI k = 19 ∨ nI k = 20 ∨ nI k = 21 ∨ nI k = 22 ∨ nI k = 24 ∨ nI k = 25 ∨ nI k = 26 ∨
      nI k = 6 ∨ nI k = 7 ∨ nI k = 8 ∨ nI k = 9 ∨ nI k = 10 ∨ nI k = 11 ∨ nI k = 12 ∨ nI k = 23) := by
  intro k hk h h5
  have c : k = 0 ∨ k = 1 ∨ k = 2 ∨ k = 3 ∨ k = 4 ∨ k = 5 ∨ k = 6 ∨ k = 7 ∨ k = 8 ∨ k = 9 ∨ k = 10 ∨ k = 11 ∨ k = 12 ∨ k = 13 ∨ k = 14 ∨ k = 15 ∨ k = 16 ∨ k = 17 ∨ k = 18 ∨ k = 19 ∨ k = 20 ∨ k = 21 ∨ k = 22 ∨ k = 23 ∨ k = 24 ∨ k = 25 ∨ k = 26 := by omega
  rcases c with rfl | rfl | rfl | rfl | rfl | rfl | rfl | rfl | rfl | rfl | rfl | rfl | rfl | rfl | rfl | rfl | rfl | rfl | rfl | rfl | rfl | rfl | rfl | rfl | rfl | rfl | rfl
  all_goals
    first
    | exact absurd h (by decide)
    | exact absurd rfl h5
    | decide
theorem rt_v5 {fc gc : Nat} {s : Int32} {x : Int64} (h : gk_VV fc gc s x) : s = 0 ∨ s = 1 ∨ s = 2 ∨ s = 3 ∨ s = 4 := by
  rcases h with (h | h | h) | h | h
  · exact Or.inl h
  · exact Or.inr (Or.inl h)
  · exact Or.inr (Or.inr (Or.inl h))
  · exact Or.inr (Or.inr (Or.inr (Or.inl h.1)))
  · exact Or.inr (Or.inr (Or.inr (Or.inr h.1)))
theorem rt_m1 {n : Nat} (hn : n < 2 ^ 31) : (-1 : Int32) ≠ nI n := by
  intro e
  have h := congrArg Int32.toInt e
  rw [nI_toInt hn] at h
  have h2 : (-1 : Int32).toInt = -1 := by decide
  omega
theorem gk_suc {S : Nat → List gf_T} {a b : Nat} {L L' : List gf_T} (h : a ≠ b) : gk_su (gk_su S b L') a L = gk_su (gk_su S a L) b L' := by
  funext s
  by_cases z : s = a
  · subst z
    rw [gk_sus, gk_sun h, gk_sus]
  · by_cases z2 : s = b
    · subst z2
      rw [gk_sus, gk_sun z, gk_sus]
    · rw [gk_sun z, gk_sun z2, gk_sun z2, gk_sun z]
section
variable {w : gw_T} {qx : xq_T} {qy : yq_T} {E : ye_T} {M : gm_T} {S : Nat → List gf_T} {a : Nat} {A' : List Nat} {V : gv_T} {F : gp_T} {G : gg_T} {N : gn_T} {nc sp : Nat} {f : gf_T} {L : List gf_T} {h s : Int32} {x : Int64}
theorem rt_wt (h0 : f.2.1 ≠ 0) (h3 : f.2.1 ≤ 3) : gk_wt L < gk_wt (f :: L) ∧ gk_yl L ≤ gk_yl (f :: L) := by
  constructor
  · show gk_wt L < gk_wt L + (if f.2.1 = 1 ∨ f.2.1 = 2 then 3 else if f.2.1 = 3 then 1 else 0)
    split
    · omega
    · rw [if_pos (by omega)]; omega
  · by_cases z : f.2.1 = 1 ∨ f.2.1 = 2
    · rw [gk_yly z]; omega
    · rw [gk_yln z]; omega
theorem rt_w3 (hst : f.2.1 = 1 ∨ f.2.1 = 2) : gk_wt (f :: L) = gk_wt L + 3 := by
  show gk_wt L + (if f.2.1 = 1 ∨ f.2.1 = 2 then 3 else if f.2.1 = 3 then 1 else 0) = _
  rw [if_pos hst]
theorem rt_pop (hw : gw_S w) (I : gk_I w (false, h, s, x) S (a :: A') V F G nc sp) (hSa : S a = f :: L) (h0 : f.2.1 ≠ 0) (h3 : f.2.1 ≤ 3) {h' s' : Int32} {x' : Int64}
    (hh : gk_HW h') (hv : gk_hv h' → gk_VV F.2.2 G.2.2.2 s' x') (hb : h' = 2 ∨ h' = 3 → gw_il w f.1 = true) (h5 : h' = 5 → gk_cl G a) :
    gk_I w (false, h', s', x') (gk_su S a L) (a :: A') V F G nc sp ∧ gk_mu (false, h', s', x') (gk_su S a L) (a :: A') sp < gk_mu (false, h, s, x) S (a :: A') sp := by
  have hwt := rt_wt (L := L) h0 h3
  exact gk_pop hw I hSa (gk_Xr V) (Nat.le_refl _) I.2.2.2.1 (by omega) I.2.2.2.2.1.2.1 hh hv hb h5 (by rw [if_neg (show ¬ (false, h, s, x).1 = true from Bool.false_ne_true)]; omega)
theorem rt_pop2 (hw : gw_S w) (I : gk_I w (false, h, s, x) S (a :: A') V F G nc sp) (hSa : S a = f :: L) (hst : f.2.1 = 1 ∨ f.2.1 = 2) {V' : gv_T} {nc' : Nat} (hX : gk_X V V') (hVF : gk_VF w V' F G.2.2.2) (hvc : V'.2.2.2.2 = V.2.2.2.2) (hnc : nc' ≤ nc + 1) {h' s' : Int32} {x' : Int64}
    (hh : gk_HW h') (hv : gk_hv h' → gk_VV F.2.2 G.2.2.2 s' x') (hb : h' = 2 ∨ h' = 3 → gw_il w f.1 = true) (h5 : h' = 5 → gk_cl G a) :
    gk_I w (false, h', s', x') (gk_su S a L) (a :: A') V' F G nc' sp ∧ gk_mu (false, h', s', x') (gk_su S a L) (a :: A') sp < gk_mu (false, h, s, x) S (a :: A') sp := by
  have hwt := rt_w3 (L := L) hst
  have hy := gk_yly (L := L) hst
  exact gk_pop hw I hSa hX (Nat.le_refl _) hVF (by omega) I.2.2.2.2.1.2.1 hh hv hb h5 (by rw [if_neg (show ¬ (false, h, s, x).1 = true from Bool.false_ne_true)]; omega)
theorem rt_fo {V' : gv_T} {cl : Prop} {st : Nat} {ke ks : Int32} {kn : Int64} (fo : gk_FO w V F.2.2 G.2.2.2 cl f) (hX : gk_X V V') (hst : st ≤ 3) (h4 : 0 < gw_o w f.1 ∧ gw_K w f.1 ≠ 5)
    (h5 : st = 2 → gw_K w f.1 = 14 ∨ gw_K w f.1 = 21 ∨ gk_eag (gw_K w f.1)) (h6 : st = 3 → gw_K w f.1 ≠ 14 ∧ gw_K w f.1 ≠ 21) (h7 : st = 2 → gw_K w f.1 ≠ 14 → gk_KP w F.2.2 G.2.2.2 cl (f.1, st, f.2.2.1, ke, ks, kn)) :
    gk_FO w V' F.2.2 G.2.2.2 cl (f.1, st, f.2.2.1, ke, ks, kn) :=
  ⟨fo.1, gk_CHm hX _ _ fo.2.1, hst, fun _ => h4, h5, h6, h7⟩
theorem rt_push (hw : gw_S w) (I : gk_I w (false, h, s, x) S (a :: A') V F G nc sp) (hSa : S a = f :: L) (hst : f.2.1 = 1 ∨ f.2.1 = 2) {V' : gv_T} (hX : gk_X V V') (hVF : gk_VF w V' F G.2.2.2)
    {st j : Nat} (hs1 : st = 1 ∨ st = 2 ∨ st = 3) (hj : j < gw_o w f.1) (h1 : st = 1 → j = 0) (h2 : st = 2 → j = 1) {c' ke ks : Int32} {kn : Int64} (hc : gk_CH V' (gw_sc w (gw_c w f.1 j)) c')
    (hvc : V'.2.2.2.2 + (if st = 3 then 0 else 1) ≤ V.2.2.2.2 + 1)
    (h5 : st = 2 → gw_K w f.1 = 14 ∨ gw_K w f.1 = 21 ∨ gk_eag (gw_K w f.1)) (h6 : st = 3 → gw_K w f.1 ≠ 14 ∧ gw_K w f.1 ≠ 21) (h7 : st = 2 → gw_K w f.1 ≠ 14 → gk_KP w F.2.2 G.2.2.2 (gk_cl G a) (f.1, st, f.2.2.1, ke, ks, kn)) :
    gk_I w (true, h, s, x) (gk_su S a ((gw_c w f.1 j, 0, c', 0, 0, 0) :: (f.1, st, f.2.2.1, ke, ks, kn) :: L)) (a :: A') V' F G nc sp ∧
    gk_mu (true, h, s, x) (gk_su S a ((gw_c w f.1 j, 0, c', 0, 0, 0) :: (f.1, st, f.2.2.1, ke, ks, kn) :: L)) (a :: A') sp < gk_mu (false, h, s, x) S (a :: A') sp := by
  have hwt := rt_w3 (L := L) hst
  have hy := gk_yly (L := L) hst
  have fo := xs_fo I hSa
  have h4 := fo.2.2.2.1 (by omega)
  refine gk_push hw I hSa hX (Nat.le_refl _) hVF (by omega) (rt_fo fo hX (by omega) h4 h5 h6 h7) hj h1 h2 hc ?_ I.2.2.2.2.1.2.1 ?_
  · rcases hs1 with z | z | z
    · rw [if_pos (Or.inl z)]
      rw [if_neg (by omega)] at hvc
      omega
    · rw [if_pos (Or.inr z)]
      rw [if_neg (by omega)] at hvc
      omega
    · rw [if_neg (by omega)]
      rw [if_pos z] at hvc
      omega
  · rw [if_neg (show ¬ (false, h, s, x).1 = true from Bool.false_ne_true), hwt]
    split
    · omega
    · split <;> omega
theorem rt_yd (hw : gw_S w) (I : gk_I w M S (a :: A') V F G nc sp) (hSa : S a = f :: L) (hk : gw_K w f.1 = 22) : ∃ g, a = 8 + g ∧ g < G.2.2.2 ∧ G.1 g = 2 := by
  obtain ⟨r, hr, hs⟩ := gk_Is I
  rw [hSa] at hs
  have fo := hs.2 f (List.mem_cons_self ..)
  have ho := gk_PTo hw L f.1 (hs.1 f L rfl) (fun g hg => hs.2 g (List.mem_cons_of_mem _ hg))
  obtain ⟨fy, hfy, e, hg1⟩ := hw.2.2.2.2.2.2.2.2.2.1 f.1 fo.1 hk
  have hn := hw.2.2.1
  have ha8 : 8 ≤ a := by
    rcases hr with ⟨_, rfl⟩ | ⟨f', hf', hk', rfl, h8, _⟩
    · rw [hw.2.2.2.2.2.1.2.2, e] at ho
      exact absurd ho.symm (rt_m1 (by omega))
    · have ho1 : gw_o w f' = 1 := by rw [hw.2.2.2.1 f' hf', hk']; decide
      have h7 := ((hw.2.2.2.2.2.2.1 f' 0 hf' (by omega)).2.2.1 hk').2
      have h7' : gw_ow w (f' + 1) = nI f' := h7
      rw [h7', e] at ho
      rw [nI_eq (by omega) (by omega)] at ho
      subst ho
      by_cases z : a < 8
      · rw [h8 z] at hg1
        exact absurd hg1 (by decide)
      · omega
  have hag := gk_AOg _ I.2.1.1 I.2.1.2 a (List.mem_cons_self ..)
  refine ⟨a - 8, by omega, by omega, ?_⟩
  exact (I.2.2.1 (a - 8) (by omega)).2.2.1.mpr (by rw [show 8 + (a - 8) = a by omega]; exact List.mem_cons_self ..)
end
end
section
section
variable {w : gw_T} {qx : xq_T} {qy : yq_T} {E : ye_T} {S : Nat → List gf_T} {a : Nat} {A' : List Nat} {V : gv_T} {F : gp_T} {G : gg_T} {N : gn_T} {nc sp : Nat} {f : gf_T} {L : List gf_T} {h s : Int32} {x : Int64}
theorem rt_md (I : gk_I w (false, h, s, x) S (a :: A') V F G nc sp) (hSa : S a = f :: L) :
    f.2.1 ≠ 0 ∧ gk_HW h ∧ (gk_hv h → gk_VV F.2.2 G.2.2.2 s x) ∧ (h = 2 ∨ h = 3 → (gw_K w f.1 = 14 ∧ f.2.1 = 2) ∨ gw_il w f.1 = true) ∧ (h = 5 → gk_cl G a) := by
  obtain ⟨m1, m2, m3, m4, m5⟩ := (I.2.2.2.2.2.1 a A' rfl).2.2 rfl
  rw [hSa] at m1 m4
  refine ⟨m1 f (List.mem_cons_self ..), m2, m3, ?_, m5⟩
  intro z
  obtain ⟨g, L', e, r⟩ := m4 z
  cases e
  exact r
theorem rt_v4 {fc gc : Nat} (h : gk_VV fc gc s x) (h4 : s = 4) : ∃ g, g < gc ∧ x = lN g := by
  rcases h with z | z | z
  · rw [h4] at z; exact absurd z (by decide)
  · rw [h4] at z; exact absurd z.1 (by decide)
  · exact z.2
theorem rt_kk {k : Int32} (hk : gw_K w f.1 = k) (h1 : k ≠ 14) (h2 : k ≠ 21) : gw_K w f.1 ≠ 14 ∧ gw_K w f.1 ≠ 21 := by
  rw [hk]
  exact ⟨h1, h2⟩
theorem rt_er (hw : gw_S w) (I : gk_I w (false, h, s, x) S (a :: A') V F G nc sp) (hSa : S a = f :: L) (h0 : f.2.1 ≠ 0) (h3 : f.2.1 ≤ 3) (e : Int64) :
    gk_I w (false, 1, 1, e) (gk_su S a L) (a :: A') V F G nc sp ∧ gk_mu (false, 1, 1, e) (gk_su S a L) (a :: A') sp < gk_mu (false, h, s, x) S (a :: A') sp :=
  rt_pop hw I hSa h0 h3 (Or.inr (Or.inl rfl)) (fun _ => Or.inl (Or.inr (Or.inl rfl))) (fun z => absurd z (by decide)) (fun z => absurd z (by decide))
theorem rt_vl (hw : gw_S w) (I : gk_I w (false, h, s, x) S (a :: A') V F G nc sp) (hSa : S a = f :: L) (h0 : f.2.1 ≠ 0) (h3 : f.2.1 ≤ 3) {s' : Int32} {x' : Int64} (hv : gk_VV F.2.2 G.2.2.2 s' x') :
    gk_I w (false, 0, s', x') (gk_su S a L) (a :: A') V F G nc sp ∧ gk_mu (false, 0, s', x') (gk_su S a L) (a :: A') sp < gk_mu (false, h, s, x) S (a :: A') sp :=
  rt_pop hw I hSa h0 h3 (Or.inl rfl) (fun _ => hv) (fun z => absurd z (by decide)) (fun z => absurd z (by decide))
theorem rt_sm (hw : gw_S w) (I : gk_I w (false, h, s, x) S (a :: A') V F G nc sp) (hSa : S a = f :: L) (hc : ¬ (gw_K w f.1 = 14 ∧ f.2.1 = 2 ∧ (h = 2 ∨ h = 3))) :
    gk_I w (false, h, s, x) (gk_su S a L) (a :: A') V F G nc sp ∧ gk_mu (false, h, s, x) (gk_su S a L) (a :: A') sp < gk_mu (false, h, s, x) S (a :: A') sp := by
  have fo := xs_fo I hSa
  have md := rt_md I hSa
  refine rt_pop hw I hSa md.1 fo.2.2.1 md.2.1 md.2.2.1 ?_ md.2.2.2.2
  intro z
  rcases md.2.2.2.1 z with c | c
  · exact absurd ⟨c.1, c.2, z⟩ hc
  · exact c
theorem rt_l3 (hw : gw_S w) (hx : xq_S w qx) (hy : yq_S w qy) (I : gk_I w (false, h, s, x) S (a :: A') V F G N.2.2 sp) (hSa : S a = f :: L) (hst : f.2.1 = 3) : rt_T w qx qy E (false, h, s, x) S a A' V F G N sp (48 * a + L.length) := by
  have r := rt_sm hw I hSa (fun z => by omega)
  exact ⟨_, _, _, _, _, _, N, r.1, r.2, List.cons_ne_nil _ _, fun u post hR hp => xg_p3 hw hx I hR hSa rfl hst hp, Or.inl (fun v hR => ys_skip hw I hR hSa rfl hst)⟩
theorem rt_while (hw : gw_S w) (hx : xq_S w qx) (hy : yq_S w qy) (I : gk_I w (false, h, s, x) S (a :: A') V F G N.2.2 sp) (hSa : S a = f :: L) (hk : gw_K w f.1 = 14) (hst : f.2.1 = 1 ∨ f.2.1 = 2) : rt_T w qx qy E (false, h, s, x) S a A' V F G N sp (48 * a + L.length) := by
  have fo := xs_fo I hSa
  have md := rt_md I hSa
  have ho : gw_o w f.1 = 2 := by rw [hw.2.2.2.1 _ fo.1, hk]; decide
  have hsc := fun j (hj : j < 2) => (hw.2.2.2.2.2.2.1 f.1 j fo.1 (by omega)).2.1 (by rw [hk]; intro z; rcases z with z | z; exact absurd z (by decide); exact absurd z.1 (by decide))
  rcases hst with hst | hst
  · by_cases h0 : h = 0
    · have hvv := md.2.2.1 (Or.inl h0)
      by_cases ht : gk_tr s x = true
      · have r := rt_push (j := 1) (st := 2) (c' := f.2.2.1) (ke := 0) (ks := 0) (kn := 0) hw I hSa (Or.inl hst) (gk_Xr V) I.2.2.2.1 (Or.inr (Or.inl rfl)) (by omega) (fun z => absurd z (by decide)) (fun _ => rfl) (by rw [hsc 1 (by decide)]; exact fo.2.1) (by rw [if_neg (by decide)]; omega) (fun _ => Or.inl hk) (fun z => absurd z (by decide)) (fun _ z => absurd hk z)
        exact ⟨_, _, _, _, _, _, N, r.1, r.2, List.cons_ne_nil _ _, fun u post hR hp => xg_w1t hw hx I hR hSa rfl h0 hst hk ht rfl hp, Or.inr (fun v post hR hp => yg_w1t hw hy I hR hSa rfl h0 hst hk (rt_v5 hvv) ht rfl hp)⟩
      · have r := rt_vl (s' := 0) (x' := 0) hw I hSa md.1 fo.2.2.1 (Or.inl (Or.inl rfl))
        exact ⟨_, _, _, _, _, _, N, r.1, r.2, List.cons_ne_nil _ _, fun u post hR hp => xg_w1f hw hx I hR hSa rfl h0 hst hk ht hp, Or.inr (fun v post hR hp => yg_w1f hw hy I hR hSa rfl h0 hst hk (rt_v5 hvv) ht hp)⟩
    · have r := rt_sm hw I hSa (fun z => by omega)
      exact ⟨_, _, _, _, _, _, N, r.1, r.2, List.cons_ne_nil _ _, fun u post hR hp => xg_pw1 hw hx I hR hSa rfl h0 hst hk hp, Or.inr (fun v post hR hp => yg_pw1 hw hy I hR hSa rfl h0 hst hk hp)⟩
  · by_cases h03 : h = 0 ∨ h = 3
    · have r := rt_push (j := 0) (st := 1) (c' := f.2.2.1) (ke := 0) (ks := 0) (kn := 0) hw I hSa (Or.inr hst) (gk_Xr V) I.2.2.2.1 (Or.inl rfl) (by omega) (fun _ => rfl) (fun z => absurd z (by decide)) (by rw [hsc 0 (by decide)]; exact fo.2.1) (by rw [if_neg (by decide)]; omega) (fun z => absurd z (by decide)) (fun z => absurd z (by decide)) (fun z => absurd z (by decide))
      exact ⟨_, _, _, _, _, _, N, r.1, r.2, List.cons_ne_nil _ _, fun u post hR hp => xg_w2 hw hx I hR hSa rfl h03 hst hk rfl hp, Or.inr (fun v post hR hp => yg_w2 hw hy I hR hSa rfl h03 hst hk rfl hp)⟩
    · by_cases h2 : h = 2
      · have r := rt_vl (s' := 0) (x' := 0) hw I hSa md.1 fo.2.2.1 (Or.inl (Or.inl rfl))
        exact ⟨_, _, _, _, _, _, N, r.1, r.2, List.cons_ne_nil _ _, fun u post hR hp => xg_w2b hw hx I hR hSa rfl h2 hst hk hp, Or.inr (fun v post hR hp => yg_w2b hw hy I hR hSa rfl h2 hst hk hp)⟩
      · have n0 : h ≠ 0 := fun z => h03 (Or.inl z)
        have n3 : h ≠ 3 := fun z => h03 (Or.inr z)
        have r := rt_sm hw I hSa (fun z => by rcases z.2.2 with c | c; exact h2 c; exact n3 c)
        exact ⟨_, _, _, _, _, _, N, r.1, r.2, List.cons_ne_nil _ _, fun u post hR hp => xg_pw2 hw hx I hR hSa rfl n0 n3 h2 hst hk hp, Or.inr (fun v post hR hp => yg_pw2 hw hy I hR hSa rfl n0 n3 h2 hst hk hp)⟩
theorem rt_fin (hw : gw_S w) (hx : xq_S w qx) (hy : yq_S w qy) (I : gk_I w (false, h, s, x) S (a :: A') V F G N.2.2 sp) (hSa : S a = f :: L) (hk : gw_K w f.1 = 21) (hst : f.2.1 = 1 ∨ f.2.1 = 2) : rt_T w qx qy E (false, h, s, x) S a A' V F G N sp (48 * a + L.length) := by
  have fo := xs_fo I hSa
  have md := rt_md I hSa
  have ho : gw_o w f.1 = 2 := by rw [hw.2.2.2.1 _ fo.1, hk]; decide
  have n14 : gw_K w f.1 ≠ 14 := by rw [hk]; decide
  rcases hst with hst | hst
  · have hsc := (hw.2.2.2.2.2.2.1 f.1 1 fo.1 (by omega)).2.1 (by rw [hk]; intro z; rcases z with z | z; exact absurd z (by decide); exact absurd z.1 (by decide))
    have r := rt_push (j := 1) (st := 2) (c' := f.2.2.1) (ke := h) (ks := s) (kn := x) hw I hSa (Or.inl hst) (gk_Xr V) I.2.2.2.1 (Or.inr (Or.inl rfl)) (by omega) (fun z => absurd z (by decide)) (fun _ => rfl) (by rw [hsc]; exact fo.2.1) (by rw [if_neg (by decide)]; omega) (fun _ => Or.inr (Or.inl hk)) (fun z => absurd z (by decide))
      (fun _ _ => ⟨md.2.1, md.2.2.1, fun z => by rcases md.2.2.2.1 z with c | c; exact absurd c.1 n14; exact c, md.2.2.2.2, fun z => absurd hk z⟩)
    exact ⟨_, _, _, _, _, _, N, r.1, r.2, List.cons_ne_nil _ _, fun u post hR hp => xg_f1 hw hx I hR hSa rfl hst hk rfl hp, Or.inr (fun v post hR hp => yg_f1 hw hy I hR hSa rfl hst hk rfl hp)⟩
  · by_cases h0 : h = 0
    · have kp := fo.2.2.2.2.2.2 hst n14
      have r := rt_pop (h' := f.2.2.2.1) (s' := f.2.2.2.2.1) (x' := f.2.2.2.2.2) hw I hSa md.1 fo.2.2.1 kp.1 kp.2.1 kp.2.2.1 kp.2.2.2.1
      exact ⟨_, _, _, _, _, _, N, r.1, r.2, List.cons_ne_nil _ _, fun u post hR hp => xg_f2 hw hx I hR hSa rfl h0 hst hk hp, Or.inr (fun v post hR hp => yg_f2 hw hy I hR hSa rfl h0 hst hk hp)⟩
    · have r := rt_sm hw I hSa (fun z => n14 z.1)
      exact ⟨_, _, _, _, _, _, N, r.1, r.2, List.cons_ne_nil _ _, fun u post hR hp => xg_f2p hw hx I hR hSa rfl h0 hst hk hp, Or.inr (fun v post hR hp => yg_f2p hw hy I hR hSa rfl h0 hst hk hp)⟩
theorem rt_bd (hw : gw_S w) (I : gk_I w (false, h, s, x) S (a :: A') V F G nc sp) (hSa : S a = f :: L) (hk : gw_K w f.1 = 4 ∨ gw_K w f.1 = 20) (hst : f.2.1 = 1) (hv : gk_VV F.2.2 G.2.2.2 s x) :
    gk_I w (true, h, s, x) (gk_su S a ((gw_c w f.1 1, 0, nI V.2.2.2.2, 0, 0, 0) :: (f.1, 3, f.2.2.1, 0, 0, 0) :: L)) (a :: A') (gk_bd V (nI f.1) f.2.2.1 s x) F G nc sp ∧
    gk_mu (true, h, s, x) (gk_su S a ((gw_c w f.1 1, 0, nI V.2.2.2.2, 0, 0, 0) :: (f.1, 3, f.2.2.1, 0, 0, 0) :: L)) (a :: A') sp < gk_mu (false, h, s, x) S (a :: A') sp := by
  have fo := xs_fo I hSa
  have ho : gw_o w f.1 = 2 := by rw [hw.2.2.2.1 _ fo.1]; rcases hk with z | z <;> (rw [z]; decide)
  have hsc := (hw.2.2.2.2.2.2.1 f.1 1 fo.1 (by omega)).1 (Or.inr ⟨hk, rfl⟩)
  refine rt_push (j := 1) (st := 3) hw I hSa (Or.inl hst) (gk_bdX V (nI f.1) f.2.2.1 s x) (gk_bdV I.2.2.2.1 (Nat.le_refl _) hv) (Or.inr (Or.inr rfl)) (by omega) (fun z => absurd z (by decide)) (fun z => absurd z (by decide)) ?_ ?_ (fun z => absurd z (by decide)) (fun _ => ?_) (fun z => absurd z (by decide))
  · rw [hsc]
    exact gk_bdC fo.2.1
  · rw [if_pos rfl]
    exact Nat.le_refl _
  · rcases hk with z | z <;> (rw [z]; decide)
theorem rt_try (hw : gw_S w) (hx : xq_S w qx) (hy : yq_S w qy) (I : gk_I w (false, h, s, x) S (a :: A') V F G N.2.2 sp) (hSa : S a = f :: L) (hk : gw_K w f.1 = 20) (hst : f.2.1 = 1) : rt_T w qx qy E (false, h, s, x) S a A' V F G N sp (48 * a + L.length) := by
  have fo := xs_fo I hSa
  have md := rt_md I hSa
  have n14 : gw_K w f.1 ≠ 14 := by rw [hk]; decide
  have n21 : gw_K w f.1 ≠ 21 := by rw [hk]; decide
  by_cases h1 : h = 1
  · have r := rt_bd hw I hSa (Or.inr hk) hst (md.2.2.1 (Or.inr (Or.inl h1)))
    exact ⟨_, _, _, _, _, _, N, r.1, r.2, List.cons_ne_nil _ _, fun u post hR hp => xg_try hw hx I hR hSa rfl h1 hst hk rfl hp, Or.inr (fun v post hR hp => yg_try hw hy I hR hSa rfl h1 hst hk rfl hp)⟩
  · have r := rt_sm hw I hSa (fun z => n14 z.1)
    by_cases h0 : h = 0
    · exact ⟨_, _, _, _, _, _, N, r.1, r.2, List.cons_ne_nil _ _, fun u post hR hp => xg_pt hw hx I hR hSa rfl h1 hst hk hp, Or.inr (fun v post hR hp => yg_pt0 hw hy I hR hSa rfl h0 hst hk hp)⟩
    · exact ⟨_, _, _, _, _, _, N, r.1, r.2, List.cons_ne_nil _ _, fun u post hR hp => xg_pt hw hx I hR hSa rfl h1 hst hk hp, Or.inr (fun v post hR hp => yg_pn hw hy I hR hSa rfl h0 (Or.inl hst) n14 n21 (fun z => absurd z h1) hp)⟩
theorem rt_nv (hw : gw_S w) (hx : xq_S w qx) (hy : yq_S w qy) (I : gk_I w (false, h, s, x) S (a :: A') V F G N.2.2 sp) (hSa : S a = f :: L) (n14 : gw_K w f.1 ≠ 14) (n21 : gw_K w f.1 ≠ 21) (n20 : gw_K w f.1 ≠ 20) (hst : f.2.1 = 1 ∨ f.2.1 = 2) (h0 : h ≠ 0) : rt_T w qx qy E (false, h, s, x) S a A' V F G N sp (48 * a + L.length) := by
  have r := rt_sm hw I hSa (fun z => n14 z.1)
  exact ⟨_, _, _, _, _, _, N, r.1, r.2, List.cons_ne_nil _ _, fun u post hR hp => xg_pn hw hx I hR hSa rfl h0 n14 n21 n20 hp, Or.inr (fun v post hR hp => yg_pn hw hy I hR hSa rfl h0 hst n14 n21 (fun _ => n20) hp)⟩
theorem rt_set (hw : gw_S w) (hx : xq_S w qx) (hy : yq_S w qy) (I : gk_I w (false, h, s, x) S (a :: A') V F G N.2.2 sp) (hSa : S a = f :: L) (h0 : h = 0) (hst : f.2.1 = 1) (hk : gw_K w f.1 = 3) : rt_T w qx qy E (false, h, s, x) S a A' V F G N sp (48 * a + L.length) := by
  have fo := xs_fo I hSa
  have md := rt_md I hSa
  have hvv := md.2.2.1 (Or.inl h0)
  obtain ⟨b, hbs, hmn⟩ := hw.2.2.2.2.2.2.2.1 f.1 fo.1 (Or.inr hk)
  have hvc := xg_vc I
  have hfi := gk_fil (b := b) (by omega) _ _ fo.2.1 hbs
  have hVF : gk_VF w (gk_st V (gk_fi V b (gw_sc w f.1) f.2.2.1) s x) F G.2.2.2 := by
    refine gk_VFm (gk_Xr V) I.2.2.2.1 (Nat.le_refl _) ?_
    intro i hi
    show gk_VV _ _ (upd V.2.2.1 _ s i) (vp_updL V.2.2.2.1 _ x i)
    by_cases z : i = gk_fi V b (gw_sc w f.1) f.2.2.1
    · subst z
      rw [pk_us, pk_uLs]
      exact hvv
    · rw [pk_un z, pk_uLn z]
      exact I.2.2.2.1.1 i hi
  have r := rt_pop2 (h' := 0) (s' := s) (x' := x) (V' := gk_st V (gk_fi V b (gw_sc w f.1) f.2.2.1) s x) hw I hSa (Or.inl hst) (gk_Xr V) hVF rfl (Nat.le_succ _) (Or.inl rfl) (fun _ => hvv) (fun z => absurd z (by decide)) (fun z => absurd z (by decide))
  exact ⟨_, _, _, _, _, _, N, r.1, r.2, List.cons_ne_nil _ _, fun u post hR hp => xg_set hw hx I hR hSa rfl h0 hst hk hbs hmn hp, Or.inr (fun v post hR hp => yg_set hw hy I hR hSa rfl h0 hst hk hbs hmn hp)⟩
theorem rt_let (hw : gw_S w) (hx : xq_S w qx) (hy : yq_S w qy) (I : gk_I w (false, h, s, x) S (a :: A') V F G N.2.2 sp) (hSa : S a = f :: L) (h0 : h = 0) (hst : f.2.1 = 1) (hk : gw_K w f.1 = 4) : rt_T w qx qy E (false, h, s, x) S a A' V F G N sp (48 * a + L.length) := by
  have fo := xs_fo I hSa
  have md := rt_md I hSa
  have hvv := md.2.2.1 (Or.inl h0)
  have r := rt_bd hw I hSa (Or.inl hk) hst hvv
  exact ⟨_, _, _, _, _, _, N, r.1, r.2, List.cons_ne_nil _ _, fun u post hR hp => xg_let hw hx I hR hSa rfl h0 hst hk rfl hp, Or.inr (fun v post hR hp => yg_let hw hy I hR hSa rfl h0 hst hk rfl hp)⟩
theorem rt_if (hw : gw_S w) (hx : xq_S w qx) (hy : yq_S w qy) (I : gk_I w (false, h, s, x) S (a :: A') V F G N.2.2 sp) (hSa : S a = f :: L) (h0 : h = 0) (hst : f.2.1 = 1) (hk : gw_K w f.1 = 13) : rt_T w qx qy E (false, h, s, x) S a A' V F G N sp (48 * a + L.length) := by
  have fo := xs_fo I hSa
  have md := rt_md I hSa
  have hvv := md.2.2.1 (Or.inl h0)
  have ho : gw_o w f.1 = 3 := by rw [hw.2.2.2.1 _ fo.1, hk]; decide
  have hj : (if gk_tr s x = true then 1 else 2) < gw_o w f.1 := by split <;> omega
  have hsc := (hw.2.2.2.2.2.2.1 f.1 _ fo.1 hj).2.1 (by rw [hk]; intro z; rcases z with z | z; exact absurd z (by decide); exact absurd z.1 (by decide))
  have r := rt_push (j := if gk_tr s x = true then 1 else 2) (st := 3) (c' := f.2.2.1) (ke := 0) (ks := 0) (kn := 0) hw I hSa (Or.inl hst) (gk_Xr V) I.2.2.2.1 (Or.inr (Or.inr rfl)) hj (fun z => absurd z (by decide)) (fun z => absurd z (by decide)) (by rw [hsc]; exact fo.2.1) (by rw [if_pos rfl]; omega) (fun z => absurd z (by decide)) (fun _ => by rw [hk]; decide) (fun z => absurd z (by decide))
  exact ⟨_, _, _, _, _, _, N, r.1, r.2, List.cons_ne_nil _ _, fun u post hR hp => xg_if hw hx I hR hSa rfl h0 hst hk rfl hp, Or.inr (fun v post hR hp => yg_if hw hy I hR hSa rfl h0 hst hk (rt_v5 hvv) rfl hp)⟩
theorem rt_seq (hw : gw_S w) (hx : xq_S w qx) (hy : yq_S w qy) (I : gk_I w (false, h, s, x) S (a :: A') V F G N.2.2 sp) (hSa : S a = f :: L) (h0 : h = 0) (hst : f.2.1 = 1) (hk : gw_K w f.1 = 15) : rt_T w qx qy E (false, h, s, x) S a A' V F G N sp (48 * a + L.length) := by
  have fo := xs_fo I hSa
  have md := rt_md I hSa
  have hvv := md.2.2.1 (Or.inl h0)
  have ho : gw_o w f.1 = 2 := by rw [hw.2.2.2.1 _ fo.1, hk]; decide
  have hsc := (hw.2.2.2.2.2.2.1 f.1 1 fo.1 (by omega)).2.1 (by rw [hk]; intro z; rcases z with z | z; exact absurd z (by decide); exact absurd z.1 (by decide))
  have r := rt_push (j := 1) (st := 3) (c' := f.2.2.1) (ke := 0) (ks := 0) (kn := 0) hw I hSa (Or.inl hst) (gk_Xr V) I.2.2.2.1 (Or.inr (Or.inr rfl)) (by omega) (fun z => absurd z (by decide)) (fun z => absurd z (by decide)) (by rw [hsc]; exact fo.2.1) (by rw [if_pos rfl]; omega) (fun z => absurd z (by decide)) (fun _ => by rw [hk]; decide) (fun z => absurd z (by decide))
  exact ⟨_, _, _, _, _, _, N, r.1, r.2, List.cons_ne_nil _ _, fun u post hR hp => xg_seq hw hx I hR hSa rfl h0 hst hk rfl hp, Or.inr (fun v post hR hp => yg_seq hw hy I hR hSa rfl h0 hst hk rfl hp)⟩
theorem rt_eag (hw : gw_S w) (hx : xq_S w qx) (hy : yq_S w qy) (I : gk_I w (false, h, s, x) S (a :: A') V F G N.2.2 sp) (hSa : S a = f :: L) (h0 : h = 0) (hst : f.2.1 = 1) (hk : gk_eag (gw_K w f.1)) : rt_T w qx qy E (false, h, s, x) S a A' V F G N sp (48 * a + L.length) := by
  have fo := xs_fo I hSa
  have md := rt_md I hSa
  have hvv := md.2.2.1 (Or.inl h0)
  have ho : gw_o w f.1 = 2 := by
    rw [hw.2.2.2.1 _ fo.1]
    rcases hk with z | z | z | z | z | z | z | z <;> (rw [z]; decide)
  have nb : ¬ gw_bd (gw_K w f.1) 1 := by
    rcases hk with z | z | z | z | z | z | z | z <;> (rw [z]; decide)
  have n21 : gw_K w f.1 ≠ 21 := by
    rcases hk with z | z | z | z | z | z | z | z <;> (rw [z]; decide)
  have hsc := (hw.2.2.2.2.2.2.1 f.1 1 fo.1 (by omega)).2.1 nb
  have r := rt_push (j := 1) (st := 2) (c' := f.2.2.1) (ke := h) (ks := s) (kn := x) hw I hSa (Or.inl hst) (gk_Xr V) I.2.2.2.1 (Or.inr (Or.inl rfl)) (by omega) (fun z => absurd z (by decide)) (fun _ => rfl) (by rw [hsc]; exact fo.2.1) (by rw [if_neg (by decide)]; omega) (fun _ => Or.inr (Or.inr hk)) (fun z => absurd z (by decide))
    (fun _ _ => ⟨md.2.1, md.2.2.1, fun z => by have z2 : h = 2 ∨ h = 3 := z; rw [h0] at z2; exact absurd z2 (by decide), md.2.2.2.2, fun _ => h0⟩)
  exact ⟨_, _, _, _, _, _, N, r.1, r.2, List.cons_ne_nil _ _, fun u post hR hp => xg_eag hw hx I hR hSa rfl h0 hst hk rfl hp, Or.inr (fun v post hR hp => yg_eag hw hy I hR hSa rfl h0 hst hk rfl hp)⟩
theorem rt_ret (hw : gw_S w) (hx : xq_S w qx) (hy : yq_S w qy) (I : gk_I w (false, h, s, x) S (a :: A') V F G N.2.2 sp) (hSa : S a = f :: L) (h0 : h = 0) (hst : f.2.1 = 1) (hk : gw_K w f.1 = 18) : rt_T w qx qy E (false, h, s, x) S a A' V F G N sp (48 * a + L.length) := by
  have fo := xs_fo I hSa
  have md := rt_md I hSa
  have hvv := md.2.2.1 (Or.inl h0)
  have r := rt_pop (h' := 4) (s' := s) (x' := x) hw I hSa md.1 fo.2.2.1 (Or.inr (Or.inr (Or.inr (Or.inr (Or.inl rfl))))) (fun _ => hvv) (fun z => absurd z (by decide)) (fun z => absurd z (by decide))
  exact ⟨_, _, _, _, _, _, N, r.1, r.2, List.cons_ne_nil _ _, fun u post hR hp => xg_ret hw hx I hR hSa rfl h0 hst hk hp, Or.inr (fun v post hR hp => yg_ret hw hy I hR hSa rfl h0 hst hk hp)⟩
theorem rt_thr (hw : gw_S w) (hx : xq_S w qx) (hy : yq_S w qy) (I : gk_I w (false, h, s, x) S (a :: A') V F G N.2.2 sp) (hSa : S a = f :: L) (h0 : h = 0) (hst : f.2.1 = 1) (hk : gw_K w f.1 = 19) : rt_T w qx qy E (false, h, s, x) S a A' V F G N sp (48 * a + L.length) := by
  have fo := xs_fo I hSa
  have md := rt_md I hSa
  have hvv := md.2.2.1 (Or.inl h0)
  have r := rt_pop (h' := 1) (s' := s) (x' := x) hw I hSa md.1 fo.2.2.1 (Or.inr (Or.inl rfl)) (fun _ => hvv) (fun z => absurd z (by decide)) (fun z => absurd z (by decide))
  exact ⟨_, _, _, _, _, _, N, r.1, r.2, List.cons_ne_nil _ _, fun u post hR hp => xg_thr hw hx I hR hSa rfl h0 hst hk hp, Or.inr (fun v post hR hp => yg_thr hw hy I hR hSa rfl h0 hst hk hp)⟩
theorem rt_host (hw : gw_S w) (hx : xq_S w qx) (hy : yq_S w qy) (I : gk_I w (false, h, s, x) S (a :: A') V F G N.2.2 sp) (hSa : S a = f :: L) (h0 : h = 0) (hst : f.2.1 = 1) (hk : gw_K w f.1 = 26) : rt_T w qx qy E (false, h, s, x) S a A' V F G N sp (48 * a + L.length) := by
  have fo := xs_fo I hSa
  have md := rt_md I hSa
  have hvv := md.2.2.1 (Or.inl h0)
  have hnc : N.2.2 ≤ 600 := by have := I.2.2.2.2.1; omega
  have e : (gk_nt F N s x).2.2 = N.2.2 + 1 := by unfold gk_nt; split <;> rfl
  have r := rt_pop2 (V' := V) (nc' := (gk_nt F N s x).2.2) (h' := (if s = 1 ∧ x < 0 then 1 else 0)) (s' := s) (x' := x) hw I hSa (Or.inl hst) (gk_Xr V) I.2.2.2.1 rfl (by rw [e]; exact Nat.le_refl _) (by split; exact Or.inr (Or.inl rfl); exact Or.inl rfl) (fun _ => hvv) (by split <;> (intro z; exact absurd z (by decide))) (by split <;> (intro z; exact absurd z (by decide)))
  exact ⟨_, _, _, _, _, _, gk_nt F N s x, r.1, r.2, List.cons_ne_nil _ _, fun u post hR hp => xg_host hw hx I hR hSa rfl h0 hst hk hnc hvv hp, Or.inr (fun v post hR hp => yg_host hw hy I hR hSa rfl h0 hst hk hnc hvv hp)⟩
theorem rt_yield (hw : gw_S w) (hx : xq_S w qx) (hy : yq_S w qy) (I : gk_I w (false, h, s, x) S (a :: A') V F G N.2.2 sp) (hSa : S a = f :: L) (h0 : h = 0) (hst : f.2.1 = 1) (hk : gw_K w f.1 = 22) : rt_T w qx qy E (false, h, s, x) S a A' V F G N sp (48 * a + L.length) := by
  have fo := xs_fo I hSa
  have md := rt_md I hSa
  have hvv := md.2.2.1 (Or.inl h0)
  obtain ⟨g, hag, hg, h2⟩ := rt_yd hw I hSa hk
  rcases (I.2.2.1 g hg).2.1 with hc | hc
  · have r := rt_kk (k := 22) hk (by decide) (by decide)
    obtain ⟨r1, r2, r3⟩ := gk_yld I rfl hSa hst r hg hag hc h0
    exact ⟨_, _, _, _, _, _, N, r2, r3, r1, fun u post hR hp => xg_yw hw hx I hR hSa rfl h0 hst hk hag hg h2 hc hp, Or.inr (fun v post hR hp => yg_yw hw hy I hR hSa rfl h0 hst hk hag hg hc hp)⟩
  · have r := rt_er hw I hSa md.1 fo.2.2.1 (-4 : Int32).toInt64
    exact ⟨_, _, _, _, _, _, N, r.1, r.2, List.cons_ne_nil _ _, fun u post hR hp => xg_yt hw hx I hR hSa rfl h0 hst hk hag hg h2 hc hp, Or.inr (fun v post hR hp => yg_yt hw hy I hR hSa rfl h0 hst hk hag hg hc hp)⟩
theorem rt_done (hw : gw_S w) (hx : xq_S w qx) (hy : yq_S w qy) (I : gk_I w (false, h, s, x) S (a :: A') V F G N.2.2 sp) (hSa : S a = f :: L) (h0 : h = 0) (hst : f.2.1 = 1) (hk : gw_K w f.1 = 24) : rt_T w qx qy E (false, h, s, x) S a A' V F G N sp (48 * a + L.length) := by
  have fo := xs_fo I hSa
  have md := rt_md I hSa
  have hvv := md.2.2.1 (Or.inl h0)
  by_cases hs : s = 4
  · obtain ⟨g, hg, hx4⟩ := rt_v4 hvv hs
    have r := rt_vl (s' := 1) (x' := (if G.1 g = 3 then 1 else 0)) hw I hSa md.1 fo.2.2.1 (Or.inl (Or.inr (Or.inl rfl)))
    exact ⟨_, _, _, _, _, _, N, r.1, r.2, List.cons_ne_nil _ _, fun u post hR hp => xg_done hw hx I hR hSa rfl h0 hst hk hg hs hx4 hp, Or.inr (fun v post hR hp => yg_done hw hy I hR hSa rfl h0 hst hk hg hs hx4 hp)⟩
  · have r := rt_er hw I hSa md.1 fo.2.2.1 (-3 : Int32).toInt64
    exact ⟨_, _, _, _, _, _, N, r.1, r.2, List.cons_ne_nil _ _, fun u post hR hp => xg_done3 hw hx I hR hSa rfl h0 hst hk hs hp, Or.inr (fun v post hR hp => yg_done3 hw hy I hR hSa rfl h0 hst hk hs hp)⟩
theorem rt_close (hw : gw_S w) (hx : xq_S w qx) (hy : yq_S w qy) (I : gk_I w (false, h, s, x) S (a :: A') V F G N.2.2 sp) (hSa : S a = f :: L) (h0 : h = 0) (hst : f.2.1 = 1) (hk : gw_K w f.1 = 25) : rt_T w qx qy E (false, h, s, x) S a A' V F G N sp (48 * a + L.length) := by
  have fo := xs_fo I hSa
  have md := rt_md I hSa
  have hvv := md.2.2.1 (Or.inl h0)
  by_cases hs : s = 4
  · obtain ⟨g, hg, hx4⟩ := rt_v4 hvv hs
    have gn := I.2.2.1 g hg
    have close03 : G.1 g = 0 ∨ G.1 g = 3 → rt_T w qx qy E (false, h, s, x) S a A' V F G N sp (48 * a + L.length) := by
      intro h03
      have I2 := gk_gs I (g := g) (by rcases h03 with z | z <;> (rw [z]; decide))
      have r := rt_vl (s' := 0) (x' := 0) hw I2 hSa md.1 fo.2.2.1 (Or.inl (Or.inl rfl))
      exact ⟨_, _, _, _, _, _, N, r.1, r.2, List.cons_ne_nil _ _, fun u post hR hp => xg_clE hw hx I hR hSa rfl h0 hst hk hg hs hx4 h03 hp, Or.inr (fun v post hR hp => yg_clE hw hy I hR hSa rfl h0 hst hk hg hs hx4 h03 hp)⟩
    rcases gn.1 with z | z | z | z
    · exact close03 (Or.inl z)
    · by_cases hd : A'.length + 1 < 8
      · obtain ⟨hc, y, L', e1, e2, e3, _⟩ := gn.2.2.2.2 z
        have r := gk_ent (M' := (false, 5, 0, 0)) (cl' := upd G.2.1 g 1) I rfl hSa (Or.inl hst) (rt_kk (k := 25) hk (by decide) (by decide)) hd hg (by rw [z]; decide) (fun i hi => pk_un hi) (fun _ => pk_us) (Or.inr pk_us)
          ⟨fun c => (by cases c), fun _ => ⟨by rw [e1]; exact gk_NHc (by rw [e2]; decide) e3, Or.inr (Or.inr (Or.inr (Or.inr (Or.inr rfl)))), fun c => absurd c (by unfold gk_hv; decide), fun c => absurd c (by decide), fun _ => pk_us⟩⟩
        exact ⟨_, _, _, _, _, _, N, r.1, r.2, List.cons_ne_nil _ _, fun u post hR hp => xg_cl hw hx I hR hSa rfl h0 hst hk hg hs hx4 z hd hp, Or.inr (fun v post hR hp => yg_cl hw hy I hR hSa rfl h0 hst hk hg hs hx4 z hd hp)⟩
      · have r := rt_er hw I hSa md.1 fo.2.2.1 (-5 : Int32).toInt64
        exact ⟨_, _, _, _, _, _, N, r.1, r.2, List.cons_ne_nil _ _, fun u post hR hp => xg_clF hw hx I hR hSa rfl h0 hst hk hg hs hx4 z hd hp, Or.inr (fun v post hR hp => yg_clF hw hy I hR hSa rfl h0 hst hk hg hs hx4 z hd hp)⟩
    · have r := rt_er hw I hSa md.1 fo.2.2.1 (-4 : Int32).toInt64
      exact ⟨_, _, _, _, _, _, N, r.1, r.2, List.cons_ne_nil _ _, fun u post hR hp => xg_clW hw hx I hR hSa rfl h0 hst hk hg hs hx4 z hp, Or.inr (fun v post hR hp => yg_clW hw hy I hR hSa rfl h0 hst hk hg hs hx4 z hp)⟩
    · exact close03 (Or.inr z)
  · have r := rt_er hw I hSa md.1 fo.2.2.1 (-3 : Int32).toInt64
    exact ⟨_, _, _, _, _, _, N, r.1, r.2, List.cons_ne_nil _ _, fun u post hR hp => xg_cl3 hw hx I hR hSa rfl h0 hst hk hs hp, Or.inr (fun v post hR hp => yg_cl3 hw hy I hR hSa rfl h0 hst hk hs hp)⟩
end
end
section
section
variable {w : gw_T} {qx : xq_T} {qy : yq_T} {E : ye_T} {S : Nat → List gf_T} {a : Nat} {A' : List Nat} {V : gv_T} {F : gp_T} {G : gg_T} {N : gn_T} {nc sp : Nat} {f : gf_T} {L : List gf_T} {h s : Int32} {x : Int64}
theorem rt_kp {cl : Prop} (fo : gk_FO w V F.2.2 G.2.2.2 cl f) (hst : f.2.1 = 2) (h14 : gw_K w f.1 ≠ 14) (h21 : gw_K w f.1 ≠ 21) : gk_VV F.2.2 G.2.2.2 f.2.2.2.2.1 f.2.2.2.2.2 := by
  have kp := fo.2.2.2.2.2.2 hst h14
  exact kp.2.1 (Or.inl (kp.2.2.2.2 h21))
theorem rt_app (hw : gw_S w) (hx : xq_S w qx) (hy : yq_S w qy) (I : gk_I w (false, h, s, x) S (a :: A') V F G N.2.2 sp) (hSa : S a = f :: L) (h0 : h = 0) (hst : f.2.1 = 2) (hk : gw_K w f.1 = 6) : rt_T w qx qy E (false, h, s, x) S a A' V F G N sp (48 * a + L.length) := by
  have fo := xs_fo I hSa
  have md := rt_md I hSa
  have hvv := md.2.2.1 (Or.inl h0)
  have kk := rt_kk (k := 6) hk (by decide) (by decide)
  have kv := rt_kp fo hst kk.1 kk.2
  by_cases hs : f.2.2.2.2.1 = 3
  · obtain ⟨i, hi, hxi⟩ : ∃ i, i < F.2.2 ∧ f.2.2.2.2.2 = lN i := by
      rcases kv with z | z | z
      · rw [hs] at z; exact absurd z (by decide)
      · exact z.2
      · rw [hs] at z; exact absurd z.1 (by decide)
    obtain ⟨t, ht, hft, hkt, hch⟩ := I.2.2.2.1.2 i hi
    rcases hw.2.2.2.2.2.2.2.2.2.2.1 t ht with hg | hg
    · by_cases hd : A'.length + 1 < 8
      · have r := gk_call (h2 := h) (s2 := s) (x2 := x) (e0 := 0) (s0 := 0) (n0 := 0) hw I rfl hSa hst kk hd ht hkt hg hch hvv
        exact ⟨_, _, _, _, _, _, N, r.1, r.2, List.cons_ne_nil _ _, fun u post hR hp => xg_ap hw hx I hR hSa rfl h0 hst hk hs hxi hi ht hft hg hd rfl hp, Or.inr (fun v post hR hp => yg_ap hw hy I hR hSa rfl h0 hst hk hs hxi hi ht hft hkt hg hd rfl hp)⟩
      · have r := rt_er hw I hSa md.1 fo.2.2.1 (-5 : Int32).toInt64
        exact ⟨_, _, _, _, _, _, N, r.1, r.2, List.cons_ne_nil _ _, fun u post hR hp => xg_apF hw hx I hR hSa rfl h0 hst hk hs hxi hi ht hft hg hd hp, Or.inr (fun v post hR hp => yg_apF hw hy I hR hSa rfl h0 hst hk hs hxi hi ht hft hg hd hp)⟩
    · by_cases hd : G.2.2.2 < 8
      · have r := gk_mkg (e0 := 0) (s0 := 0) (n0 := 0) hw I rfl hSa hst hd ht hkt hg hch hvv
        have hag := gk_AOg _ I.2.1.1 I.2.1.2 a (List.mem_cons_self ..)
        have e := gk_suc (S := S) (a := a) (b := 8 + G.2.2.2) (L := L) (L' := [(t + 1, 0, nI V.2.2.2.2, 0, 0, 0)]) (by omega)
        exact ⟨_, _, _, _, _, _, N, r.1, r.2, List.cons_ne_nil _ _, fun u post hR hp => xg_apM hw hx I hR hSa rfl h0 hst hk hs hxi hi ht hft hg hd (by rw [e]; exact hp), Or.inr (fun v post hR hp => yg_apM hw hy I hR hSa rfl h0 hst hk hs hxi hi ht hft hkt hg hd hp)⟩
      · have r := rt_er hw I hSa md.1 fo.2.2.1 (-6 : Int32).toInt64
        exact ⟨_, _, _, _, _, _, N, r.1, r.2, List.cons_ne_nil _ _, fun u post hR hp => xg_apG hw hx I hR hSa rfl h0 hst hk hs hxi hi ht hft hg hd hp, Or.inr (fun v post hR hp => yg_apG hw hy I hR hSa rfl h0 hst hk hs hxi hi ht hft hg hd hp)⟩
  · have r := rt_er hw I hSa md.1 fo.2.2.1 (-3 : Int32).toInt64
    exact ⟨_, _, _, _, _, _, N, r.1, r.2, List.cons_ne_nil _ _, fun u post hR hp => xg_ap3 hw hx I hR hSa rfl h0 hst hk hs hp, Or.inr (fun v post hR hp => yg_ap3 hw hy I hR hSa rfl h0 hst hk hs hp)⟩
theorem rt_res (hw : gw_S w) (hx : xq_S w qx) (hy : yq_S w qy) (I : gk_I w (false, h, s, x) S (a :: A') V F G N.2.2 sp) (hSa : S a = f :: L) (h0 : h = 0) (hst : f.2.1 = 2) (hk : gw_K w f.1 = 23) : rt_T w qx qy E (false, h, s, x) S a A' V F G N sp (48 * a + L.length) := by
  have fo := xs_fo I hSa
  have md := rt_md I hSa
  have hvv := md.2.2.1 (Or.inl h0)
  have kk := rt_kk (k := 23) hk (by decide) (by decide)
  have kv := rt_kp fo hst kk.1 kk.2
  by_cases hs : f.2.2.2.2.1 = 4
  · obtain ⟨g, hg, hxg⟩ := rt_v4 kv hs
    have gn := I.2.2.1 g hg
    rcases gn.1 with z | z | z | z
    · by_cases hd : A'.length + 1 < 8
      · obtain ⟨hc, y, e1, e2⟩ := gn.2.2.2.1 z
        have r := gk_ent (M' := (true, h, s, x)) (cl' := G.2.1) I rfl hSa (Or.inr hst) kk hd hg (by rw [z]; decide) (fun _ _ => rfl) (fun c => c) (Or.inl hc)
          ⟨fun _ => ⟨y, [], e1, e2⟩, fun c => (by cases c)⟩
        exact ⟨_, _, _, _, _, _, N, r.1, r.2, List.cons_ne_nil _ _, fun u post hR hp => xg_rs (M' := (true, h, s, x)) hw hx I hR hSa rfl h0 hst hk hs hxg hg (Or.inl z) hc hd rfl hp, Or.inr (fun v post hR hp => yg_rs0 hw hy I hR hSa rfl h0 hst hk hs hxg hg z hd rfl hp)⟩
      · have r := rt_er hw I hSa md.1 fo.2.2.1 (-5 : Int32).toInt64
        exact ⟨_, _, _, _, _, _, N, r.1, r.2, List.cons_ne_nil _ _, fun u post hR hp => xg_rsF hw hx I hR hSa rfl h0 hst hk hs hxg hg (Or.inl z) hd hp, Or.inr (fun v post hR hp => yg_rsF hw hy I hR hSa rfl h0 hst hk hs hxg hg (Or.inl z) hd hp)⟩
    · by_cases hd : A'.length + 1 < 8
      · obtain ⟨hc, y, L', e1, e2, e3, _⟩ := gn.2.2.2.2 z
        have r := gk_ent (M' := (false, h, s, x)) (cl' := G.2.1) I rfl hSa (Or.inr hst) kk hd hg (by rw [z]; decide) (fun _ _ => rfl) (fun c => c) (Or.inl hc)
          ⟨fun c => (by cases c), fun _ => ⟨by rw [e1]; exact gk_NHc (by rw [e2]; decide) e3, md.2.1, md.2.2.1, fun c => absurd c (by show ¬ (h = 2 ∨ h = 3); rw [h0]; decide), fun c => absurd c (by show ¬ (h = 5); rw [h0]; decide)⟩⟩
        exact ⟨_, _, _, _, _, _, N, r.1, r.2, List.cons_ne_nil _ _, fun u post hR hp => xg_rs (M' := (false, h, s, x)) hw hx I hR hSa rfl h0 hst hk hs hxg hg (Or.inr z) hc hd rfl hp, Or.inr (fun v post hR hp => yg_rs1 hw hy I hR hSa rfl h0 hst hk hs hxg hg z hd hp)⟩
      · have r := rt_er hw I hSa md.1 fo.2.2.1 (-5 : Int32).toInt64
        exact ⟨_, _, _, _, _, _, N, r.1, r.2, List.cons_ne_nil _ _, fun u post hR hp => xg_rsF hw hx I hR hSa rfl h0 hst hk hs hxg hg (Or.inr z) hd hp, Or.inr (fun v post hR hp => yg_rsF hw hy I hR hSa rfl h0 hst hk hs hxg hg (Or.inr z) hd hp)⟩
    · have r := rt_er hw I hSa md.1 fo.2.2.1 (-4 : Int32).toInt64
      exact ⟨_, _, _, _, _, _, N, r.1, r.2, List.cons_ne_nil _ _, fun u post hR hp => xg_rsW hw hx I hR hSa rfl h0 hst hk hs hxg hg z hp, Or.inr (fun v post hR hp => yg_rsW hw hy I hR hSa rfl h0 hst hk hs hxg hg z hp)⟩
    · have r := rt_vl (s' := 0) (x' := 0) hw I hSa md.1 fo.2.2.1 (Or.inl (Or.inl rfl))
      exact ⟨_, _, _, _, _, _, N, r.1, r.2, List.cons_ne_nil _ _, fun u post hR hp => xg_rsE hw hx I hR hSa rfl h0 hst hk hs hxg hg z hp, Or.inr (fun v post hR hp => yg_rsE hw hy I hR hSa rfl h0 hst hk hs hxg hg z hp)⟩
  · have r := rt_er hw I hSa md.1 fo.2.2.1 (-3 : Int32).toInt64
    exact ⟨_, _, _, _, _, _, N, r.1, r.2, List.cons_ne_nil _ _, fun u post hR hp => xg_rs3 hw hx I hR hSa rfl h0 hst hk hs hp, Or.inr (fun v post hR hp => yg_rs3 hw hy I hR hSa rfl h0 hst hk hs hp)⟩
theorem rt_same (hw : gw_S w) (hx : xq_S w qx) (hy : yq_S w qy) (I : gk_I w (false, h, s, x) S (a :: A') V F G N.2.2 sp) (hSa : S a = f :: L) (h0 : h = 0) (hst : f.2.1 = 2) (hk : gw_K w f.1 = 12) : rt_T w qx qy E (false, h, s, x) S a A' V F G N sp (48 * a + L.length) := by
  have fo := xs_fo I hSa
  have md := rt_md I hSa
  have hvv := md.2.2.1 (Or.inl h0)
  have r := rt_vl (s' := 1) (x' := gk_same f.2.2.2.2.1 f.2.2.2.2.2 s x) hw I hSa md.1 fo.2.2.1 (Or.inl (Or.inr (Or.inl rfl)))
  exact ⟨_, _, _, _, _, _, N, r.1, r.2, List.cons_ne_nil _ _, fun u post hR hp => xg_same hw hx I hR hSa rfl h0 hst hk hp, Or.inr (fun v post hR hp => yg_same hw hy I hR hSa rfl h0 hst hk hp)⟩
theorem rt_num (hw : gw_S w) (hx : xq_S w qx) (hy : yq_S w qy) (I : gk_I w (false, h, s, x) S (a :: A') V F G N.2.2 sp) (hSa : S a = f :: L) (h0 : h = 0) (hst : f.2.1 = 2) {kd : Int32} (hk : gw_K w f.1 = kd) (hd : kd = 7 ∨ kd = 8 ∨ kd = 9 ∨ kd = 10 ∨ kd = 11) : rt_T w qx qy E (false, h, s, x) S a A' V F G N sp (48 * a + L.length) := by
  have fo := xs_fo I hSa
  have md := rt_md I hSa
  have hvv := md.2.2.1 (Or.inl h0)
  by_cases hn : gk_nu f.2.2.2.2.1 ∧ gk_nu s
  · by_cases h11 : kd = 11
    · have hk := hk.trans h11
      have r := rt_vl (s' := 1) (x' := (if f.2.2.2.2.2 < x then 1 else 0)) hw I hSa md.1 fo.2.2.1 (Or.inl (Or.inr (Or.inl rfl)))
      exact ⟨_, _, _, _, _, _, N, r.1, r.2, List.cons_ne_nil _ _, fun u post hR hp => xg_less hw hx I hR hSa rfl h0 hst hk hn hp, Or.inr (fun v post hR hp => yg_less hw hy I hR hSa rfl h0 hst hk hn hp)⟩
    · have hop : gk_op4 kd := by
        rcases hd with z | z | z | z | z
        · exact Or.inl z
        · exact Or.inr (Or.inl z)
        · exact Or.inr (Or.inr (Or.inl z))
        · exact Or.inr (Or.inr (Or.inr z))
        · exact absurd z h11
      by_cases hz : kd = 10 ∧ x = 0
      · have hk := hk.trans hz.1
        have r := rt_er hw I hSa md.1 fo.2.2.1 (-1 : Int32).toInt64
        exact ⟨_, _, _, _, _, _, N, r.1, r.2, List.cons_ne_nil _ _, fun u post hR hp => xg_div0 hw hx I hR hSa rfl h0 hst hk hn hz.2 hp, Or.inr (fun v post hR hp => yg_div0 hw hy I hR hSa rfl h0 hst hk hn hz.2 hp)⟩
      · have h10 : kd = 10 → x ≠ 0 := fun z y => hz ⟨z, y⟩
        by_cases ho : gk_ov kd f.2.2.2.2.2 x
        · have r := rt_er hw I hSa md.1 fo.2.2.1 (-2 : Int32).toInt64
          exact ⟨_, _, _, _, _, _, N, r.1, r.2, List.cons_ne_nil _ _, fun u post hR hp => xg_calc hw hx I hR hSa rfl h0 hst hk hop h10 hn (fun _ => hp) (fun z => absurd ho z), Or.inr (fun v post hR hp => yg_calc hw hy I hR hSa rfl h0 hst hk hop h10 hn (fun _ => hp) (fun z => absurd ho z))⟩
        · have r := rt_vl (s' := gk_rs f.2.2.2.2.1 s (gk_res kd f.2.2.2.2.2 x)) (x' := gk_res kd f.2.2.2.2.2 x) hw I hSa md.1 fo.2.2.1 (by unfold gk_rs; split; exact Or.inl (Or.inr (Or.inl rfl)); exact Or.inl (Or.inr (Or.inr rfl)))
          exact ⟨_, _, _, _, _, _, N, r.1, r.2, List.cons_ne_nil _ _, fun u post hR hp => xg_calc hw hx I hR hSa rfl h0 hst hk hop h10 hn (fun z => absurd z ho) (fun _ => hp), Or.inr (fun v post hR hp => yg_calc hw hy I hR hSa rfl h0 hst hk hop h10 hn (fun z => absurd z ho) (fun _ => hp))⟩
  · have r := rt_er hw I hSa md.1 fo.2.2.1 (-3 : Int32).toInt64
    exact ⟨_, _, _, _, _, _, N, r.1, r.2, List.cons_ne_nil _ _, fun u post hR hp => xg_ca3 hw hx I hR hSa rfl h0 hst hk hd hn hp, Or.inr (fun v post hR hp => yg_ca3 hw hy I hR hSa rfl h0 hst hk hd hn hp)⟩
theorem rt_go (hw : gw_S w) (hx : xq_S w qx) (hy : yq_S w qy) (I : gk_I w (false, h, s, x) S (a :: A') V F G N.2.2 sp) (hSa : S a = f :: L) : rt_T w qx qy E (false, h, s, x) S a A' V F G N sp (48 * a + L.length) := by
  have fo := xs_fo I hSa
  have md := rt_md I hSa
  have h0 := md.1
  have h3 := fo.2.2.1
  by_cases st3 : f.2.1 = 3
  · exact rt_l3 hw hx hy I hSa st3
  · have hst : f.2.1 = 1 ∨ f.2.1 = 2 := by omega
    have h4 := fo.2.2.2.1 h0
    obtain ⟨k, hk27, hk⟩ := hw.2.2.2.2.1 f.1 fo.1
    have ho := hw.2.2.2.1 f.1 fo.1
    rw [hk] at ho
    have kc := rt_kinds k hk27 (by rw [← ho]; exact h4.1) (by rw [← hk]; exact h4.2)
    rw [← hk] at kc
    by_cases n14 : gw_K w f.1 = 14
    · exact rt_while hw hx hy I hSa n14 hst
    by_cases n21 : gw_K w f.1 = 21
    · exact rt_fin hw hx hy I hSa n21 hst
    have nE : f.2.1 = 2 → gk_eag (gw_K w f.1) := by
      intro z
      rcases fo.2.2.2.2.1 z with c | c | c
      · exact absurd c n14
      · exact absurd c n21
      · exact c
    by_cases n20 : gw_K w f.1 = 20
    · refine rt_try hw hx hy I hSa n20 ?_
      rcases hst with z | z
      · exact z
      · have := nE z
        rw [n20] at this
        exact absurd this (by unfold gk_eag; decide)
    by_cases hh : h = 0
    · rcases hst with hst | hst
      · rcases kc with c | c | c | c | c | c | c | c | c | c | c | c | c | c
        · exact rt_set hw hx hy I hSa hh hst c
        · exact rt_let hw hx hy I hSa hh hst c
        · exact rt_if hw hx hy I hSa hh hst c
        · exact absurd c n14
        · exact rt_seq hw hx hy I hSa hh hst c
        · exact rt_ret hw hx hy I hSa hh hst c
        · exact rt_thr hw hx hy I hSa hh hst c
        · exact absurd c n20
        · exact absurd c n21
        · exact rt_yield hw hx hy I hSa hh hst c
        · exact rt_done hw hx hy I hSa hh hst c
        · exact rt_close hw hx hy I hSa hh hst c
        · exact rt_host hw hx hy I hSa hh hst c
        · exact rt_eag hw hx hy I hSa hh hst c
      · rcases nE hst with c | c | c | c | c | c | c | c
        · exact rt_app hw hx hy I hSa hh hst c
        · exact rt_num hw hx hy I hSa hh hst c (by decide)
        · exact rt_num hw hx hy I hSa hh hst c (by decide)
        · exact rt_num hw hx hy I hSa hh hst c (by decide)
        · exact rt_num hw hx hy I hSa hh hst c (by decide)
        · exact rt_num hw hx hy I hSa hh hst c (by decide)
        · exact rt_same hw hx hy I hSa hh hst c
        · exact rt_res hw hx hy I hSa hh hst c
    · exact rt_nv hw hx hy I hSa n14 n21 n20 hst hh
end
end
section
section
variable {w : gw_T} {qx : xq_T} {qy : yq_T} {E : ye_T} {S : Nat → List gf_T} {a : Nat} {A' : List Nat} {V : gv_T} {F : gp_T} {G : gg_T} {N : gn_T} {nc sp : Nat} {f : gf_T} {L : List gf_T} {h s : Int32} {x : Int64}
def rb_T (w : gw_T) (qx : xq_T) (qy : yq_T) (E : ye_T) (M : gm_T) (S : Nat → List gf_T) (a : Nat) (A' : List Nat) (V : gv_T) (F : gp_T) (G : gg_T) (N : gn_T) (sp k : Nat) : Prop :=
  ∃ M' S' F', gk_I w M' S' (a :: A') V F' G N.2.2 (sp + 1) ∧ gk_mu M' S' (a :: A') (sp + 1) < gk_mu M S (a :: A') sp ∧
    (∀ u post, xr_R w qx M S (a :: A') V F G N sp u → (∀ u', xr_R w qx M' S' (a :: A') V F' G N (sp + 1) u' → post u') → wpX_beginToken post u (nI k)) ∧
    (∀ v post, yr_R w qy E M S (a :: A') V F G N (sp + 1) v → (∀ v', yr_R w qy E M' S' (a :: A') V F' G N (sp + 1) v' → post v') → wpY_begin post v)
theorem rb_pop (hw : gw_S w) (I : gk_I w (true, h, s, x) S (a :: A') V F G nc sp) (hsp : sp < 600) (hSa : S a = f :: L) (hst : f.2.1 = 0) {F' : gp_T} (hF : F.2.2 ≤ F'.2.2) (hF2 : F'.2.2 ≤ F.2.2 + 1) (hVF : gk_VF w V F' G.2.2.2) {h' s' : Int32} {x' : Int64}
    (hh : gk_HW h') (hv : gk_hv h' → gk_VV F'.2.2 G.2.2.2 s' x') (hb : h' = 2 ∨ h' = 3 → gw_il w f.1 = true) (h5 : h' ≠ 5) :
    gk_I w (false, h', s', x') (gk_su S a L) (a :: A') V F' G nc (sp + 1) ∧ gk_mu (false, h', s', x') (gk_su S a L) (a :: A') (sp + 1) < gk_mu (true, h, s, x) S (a :: A') sp := by
  have hy := gk_yln (f := f) (L := L) (by omega)
  have hwt : gk_wt (f :: L) = gk_wt L := by
    show gk_wt L + (if f.2.1 = 1 ∨ f.2.1 = 2 then 3 else if f.2.1 = 3 then 1 else 0) = _
    rw [if_neg (by omega), if_neg (by omega)]
    rfl
  exact gk_pop hw I hSa (gk_Xr V) hF hVF (by omega) (by omega) hh hv hb (fun z => absurd z h5) (by rw [if_pos (show (true, h, s, x).1 = true from rfl)]; omega)
theorem rb_val (hw : gw_S w) (I : gk_I w (true, h, s, x) S (a :: A') V F G nc sp) (hsp : sp < 600) (hSa : S a = f :: L) (hst : f.2.1 = 0) {s' : Int32} {x' : Int64} (hv : gk_VV F.2.2 G.2.2.2 s' x') :
    gk_I w (false, 0, s', x') (gk_su S a L) (a :: A') V F G nc (sp + 1) ∧ gk_mu (false, 0, s', x') (gk_su S a L) (a :: A') (sp + 1) < gk_mu (true, h, s, x) S (a :: A') sp :=
  rb_pop hw I hsp hSa hst (Nat.le_refl _) (Nat.le_succ _) I.2.2.2.1 (Or.inl rfl) (fun _ => hv) (fun z => absurd z (by decide)) (by decide)
theorem rb_begin (hw : gw_S w) (hx : xq_S w qx) (hy : yq_S w qy) (I : gk_I w (true, h, s, x) S (a :: A') V F G N.2.2 sp) (hsp : sp < 600) (hSa : S a = f :: L) (hst : f.2.1 = 0) :
    rb_T w qx qy E (true, h, s, x) S a A' V F G N sp (48 * a + L.length) := by
  have fo := xs_fo I hSa
  obtain ⟨k, hk27, hk⟩ := hw.2.2.2.2.1 f.1 fo.1
  have ho := hw.2.2.2.1 f.1 fo.1
  by_cases k5 : gw_K w f.1 = 5
  · have h6 : F.2.2 < 600 := by have := I.2.2.2.2.1; omega
    have hVF : gk_VF w V (upd F.1 F.2.2 (nI f.1), upd F.2.1 F.2.2 f.2.2.1, F.2.2 + 1) G.2.2.2 := by
      refine ⟨fun i hi => gk_VVm (Nat.le_succ _) (Nat.le_refl _) (I.2.2.2.1.1 i hi), ?_⟩
      intro i hi
      have hi2 : i < F.2.2 + 1 := hi
      by_cases z : i = F.2.2
      · subst z
        exact ⟨f.1, fo.1, pk_us, k5, by show gk_CH V _ (upd F.2.1 F.2.2 f.2.2.1 F.2.2); rw [pk_us]; exact fo.2.1⟩
      · obtain ⟨t, t1, t2, t3, t4⟩ := I.2.2.2.1.2 i (by omega)
        exact ⟨t, t1, (pk_un z).trans t2, t3, by show gk_CH V _ (upd F.2.1 F.2.2 f.2.2.1 i); rw [pk_un z]; exact t4⟩
    have r := rb_pop (F' := (upd F.1 F.2.2 (nI f.1), upd F.2.1 F.2.2 f.2.2.1, F.2.2 + 1)) (h' := 0) (s' := 3) (x' := lN F.2.2) hw I hsp hSa hst (Nat.le_succ _) (Nat.le_refl _) hVF (Or.inl rfl) (fun _ => Or.inr (Or.inl ⟨rfl, F.2.2, Nat.lt_succ_self _, rfl⟩)) (fun z => absurd z (by decide)) (by decide)
    exact ⟨_, _, _, r.1, r.2, fun u post hR hp => xb_fn hw hx I hR hSa hst k5 h6 hp, fun v post hR hp => yb_fn hw hy I hR hSa hst rfl k5 h6 hp⟩
  by_cases o0 : 0 < gw_o w f.1
  · have hsc := (hw.2.2.2.2.2.2.1 f.1 0 fo.1 o0).2.1 (by intro z; rcases z with z | z; exact k5 z; exact absurd z.2 (by decide))
    have hwt : gk_wt (f :: L) = gk_wt L := by
      show gk_wt L + (if f.2.1 = 1 ∨ f.2.1 = 2 then 3 else if f.2.1 = 3 then 1 else 0) = _
      rw [if_neg (by omega), if_neg (by omega)]
      rfl
    have hyl := gk_yln (f := f) (L := L) (by omega)
    have h5 := I.2.2.2.2.1
    have r := gk_push (h := h) (s := s) (x := x) (st := 1) (j := 0) (c' := f.2.2.1) (ke := 0) (ks := 0) (kn := 0) (e0 := 0) (s0 := 0) (n0 := 0) (sp' := sp + 1) (nc' := N.2.2) hw I hSa (gk_Xr V) (Nat.le_refl _) I.2.2.2.1 (by decide)
      (rt_fo fo (gk_Xr V) (by decide) ⟨o0, k5⟩ (fun z => absurd z (by decide)) (fun z => absurd z (by decide)) (fun z => absurd z (by decide))) o0 (fun _ => rfl) (fun z => absurd z (by decide)) (by rw [hsc]; exact fo.2.1)
      (by rw [if_pos (Or.inl rfl)]; omega) (by omega) (by rw [if_pos (Or.inl rfl), if_pos (show (true, h, s, x).1 = true from rfl)]; omega)
    exact ⟨_, _, _, r.1, r.2, fun u post hR hp => xb_aw hw hx I hR hSa hst hk27 hk (by rw [← hk]; exact k5) o0 rfl hp, fun v post hR hp => yb_aw hw hy I hR hSa hst rfl hk27 hk (by rw [← hk]; exact k5) o0 rfl hp⟩
  · have kc : gw_K w f.1 = 0 ∨ gw_K w f.1 = 1 ∨ gw_K w f.1 = 2 ∨ gw_K w f.1 = 16 ∨ gw_K w f.1 = 17 := by
      rw [ho] at o0
      unfold gw_op at o0
      split at o0
      · omega
      · split at o0
        · assumption
        · split at o0 <;> omega
    rcases kc with c | c | c | c | c
    · have r := rb_val (s' := 1) (x' := (gw_v w f.1).toInt64) hw I hsp hSa hst (Or.inl (Or.inr (Or.inl rfl)))
      exact ⟨_, _, _, r.1, r.2, fun u post hR hp => xb_num hw hx I hR hSa hst c hp, fun v post hR hp => yb_num hw hy I hR hSa hst rfl c hp⟩
    · have r := rb_val (s' := 0) (x' := 0) hw I hsp hSa hst (Or.inl (Or.inl rfl))
      exact ⟨_, _, _, r.1, r.2, fun u post hR hp => xb_nil hw hx I hR hSa hst c hp, fun v post hR hp => yb_nil hw hy I hR hSa hst rfl c hp⟩
    · obtain ⟨b, hbs, hmn⟩ := hw.2.2.2.2.2.2.2.1 f.1 fo.1 (Or.inl c)
      have hvc := xg_vc I
      have hfi := gk_fil (b := b) (by omega) _ _ fo.2.1 hbs
      have r := rb_val (s' := V.2.2.1 (gk_fi V b (gw_sc w f.1) f.2.2.1)) (x' := V.2.2.2.1 (gk_fi V b (gw_sc w f.1) f.2.2.1)) hw I hsp hSa hst (I.2.2.2.1.1 _ hfi)
      exact ⟨_, _, _, r.1, r.2, fun u post hR hp => xb_var hw hx I hR hSa hst c hbs hmn hp, fun v post hR hp => yb_var hw hy I hR hSa hst rfl c hbs hmn hp⟩
    · have il := hw.2.2.2.2.2.2.2.2.1 f.1 fo.1 (Or.inl c)
      have r := rb_pop (F' := F) (h' := 2) (s' := 0) (x' := 0) hw I hsp hSa hst (Nat.le_refl _) (Nat.le_succ _) I.2.2.2.1 (Or.inr (Or.inr (Or.inl rfl))) (fun z => absurd z (by unfold gk_hv; decide)) (fun _ => il) (by decide)
      exact ⟨_, _, _, r.1, r.2, fun u post hR hp => xb_brk hw hx I hR hSa hst c hp, fun v post hR hp => yb_brk hw hy I hR hSa hst rfl c hp⟩
    · have il := hw.2.2.2.2.2.2.2.2.1 f.1 fo.1 (Or.inr c)
      have r := rb_pop (F' := F) (h' := 3) (s' := 0) (x' := 0) hw I hsp hSa hst (Nat.le_refl _) (Nat.le_succ _) I.2.2.2.1 (Or.inr (Or.inr (Or.inr (Or.inl rfl)))) (fun z => absurd z (by unfold gk_hv; decide)) (fun _ => il) (by decide)
      exact ⟨_, _, _, r.1, r.2, fun u post hR hp => xb_nxt hw hx I hR hSa hst c hp, fun v post hR hp => yb_nxt hw hy I hR hSa hst rfl c hp⟩
def re_T (w : gw_T) (qx : xq_T) (qy : yq_T) (E : ye_T) (M : gm_T) (S : Nat → List gf_T) (a : Nat) (A' : List Nat) (V : gv_T) (F : gp_T) (G : gg_T) (N : gn_T) (sp : Nat) : Prop :=
  ∃ h' s' x' G', gk_I w (false, h', s', x') S A' V F G' N.2.2 sp ∧ gk_mu (false, h', s', x') S A' sp < gk_mu M S (a :: A') sp ∧
    (∀ u post, xr_R w qx M S (a :: A') V F G N sp u → (∀ u', xr_R w qx (false, h', s', x') S A' V F G' N sp u' → post u') → wpX_endActivation post u (nI a)) ∧
    (∀ v post, yr_R w qy E M S (a :: A') V F G N sp v → (A' ≠ [] → ∀ v', yr_R w qy E (false, h', s', x') S A' V F G' N sp v' → post v') →
      (A' = [] → ∀ v', yr_R w qy (ye_E F h' s' x') (false, h', s', x') S A' V F G' N sp v' → post v') → wpY_pass post v)
theorem re_end (hw : gw_S w) (I : gk_I w (false, h, s, x) S (a :: A') V F G N.2.2 sp) (hSa : S a = []) : re_T w qx qy E (false, h, s, x) S a A' V F G N sp := by
  obtain ⟨m1, m2, m3, m4, m5⟩ := (I.2.2.2.2.2.1 a A' rfl).2.2 rfl
  rw [hSa] at m4
  have n23 : ¬ (h = 2 ∨ h = 3) := by
    intro z
    obtain ⟨g, L', e, _⟩ := m4 z
    cases e
  have hv4 : h ≠ 5 → gk_hv h := by
    intro n5
    rcases m2 with z | z | z | z | z | z
    · exact Or.inl z
    · exact Or.inr (Or.inl z)
    · exact absurd (Or.inl z) n23
    · exact absurd (Or.inr z) n23
    · exact Or.inr (Or.inr z)
    · exact absurd z n5
  have h01 : (if h = 1 then (1 : Int32) else 0) = 0 ∨ (if h = 1 then (1 : Int32) else 0) = 1 := by
    split
    · exact Or.inr rfl
    · exact Or.inl rfl
  by_cases ha8 : a < 8
  · have hh := hv4 (fun z => by have := (m5 z).1; omega)
    have hvv := m3 hh
    have r := gk_end (st' := G.1) (h' := if h = 1 then 1 else 0) (s' := s) (x' := x) I rfl (fun _ _ => rfl) (fun i z => by omega) h01 hvv
    exact ⟨_, _, _, G, r.1, r.2, fun u post hR hp => xe_1 I hR rfl ha8 hh hp, fun v post hR hp1 hp0 => ye_1 hw I hR hSa rfl ha8 hh hvv hp1 hp0⟩
  · have hag := gk_AOg _ I.2.1.1 I.2.1.2 a (List.mem_cons_self ..)
    obtain ⟨g, rfl⟩ : ∃ g, a = 8 + g := ⟨a - 8, by omega⟩
    have hg : g < G.2.2.2 := by omega
    have gn := I.2.2.1 g hg
    have g2 := gn.2.2.1.mpr (List.mem_cons_self ..)
    have u1 : ∀ i, 8 + i ≠ 8 + g → upd G.1 g 3 i = G.1 i := fun i z => pk_un (by omega)
    have u2 : ∀ i, 8 + i = 8 + g → upd G.1 g 3 i = 3 := by
      intro i z
      have : i = g := by omega
      subst this
      exact pk_us
    rcases gn.2.1 with c | c
    · have hh := hv4 (fun z => by
        have h1 := (m5 z).2
        rw [Nat.add_sub_cancel_left, c] at h1
        exact absurd h1 (by decide))
      have hvv := m3 hh
      have r := gk_end (st' := upd G.1 g 3) (h' := if h = 1 then 1 else 0) (s' := s) (x' := x) I rfl u1 u2 h01 hvv
      exact ⟨_, _, _, _, r.1, r.2, fun u post hR hp => xe_2 I hR rfl hg rfl g2 c hh hp, fun v post hR hp1 hp0 => ye_2 hw I hR hSa rfl hg rfl c hh hvv hp1 hp0⟩
    · by_cases h1 : h = 1
      · have hvv := m3 (Or.inr (Or.inl h1))
        have r := gk_end (st' := upd G.1 g 3) (h' := 1) (s' := s) (x' := x) I rfl u1 u2 (Or.inr rfl) hvv
        exact ⟨_, _, _, _, r.1, r.2, fun u post hR hp => xe_3 I hR rfl hg rfl g2 c h1 hp, fun v post hR hp1 hp0 => ye_3 hw I hR hSa rfl hg rfl c h1 hvv hp1 hp0⟩
      · have r := gk_end (st' := upd G.1 g 3) (h' := 0) (s' := 0) (x' := 0) I rfl u1 u2 (Or.inl rfl) (Or.inl (Or.inl rfl))
        exact ⟨_, _, _, _, r.1, r.2, fun u post hR hp => xe_4 I hR rfl hg rfl g2 c h1 hp, fun v post hR hp1 hp0 => ye_4 hw I hR hSa rfl hg rfl c h1 hp1 hp0⟩
end
end
section
def ru_X (post : Int32 → SX → Prop) (x1 : Int32) (n : Nat) (x2 : Int32) (u : SX) : Prop := match u with
  | (f_tokenCount, f_scriptSize, f_saidPlace, f_activationCount, f_variableCount, f_functionCount, f_generatorCount, f_ending, f_valueSort, f_valueNumber, f_noteCount, f_stepCount, f_latestRun, a_tokenKinds, a_tokenOperands, a_kinds, a_operands, a_parents, a_behind, a_ownFns, a_meanings, a_generatorFns, a_frameTokens, a_frameStages, a_frameScopes, a_keptEndings, a_keptSorts, a_keptNumbers, a_frameCounts, a_activeSlots, a_variableBinders, a_variableOuters, a_variableSorts, a_variableNumbers, a_functionTokens, a_functionScopes, a_generatorStates, a_noteSorts, a_noteNumbers) => wX_run_33 post x1 n x2 f_tokenCount f_scriptSize f_saidPlace f_activationCount f_variableCount f_functionCount f_generatorCount f_ending f_valueSort f_valueNumber f_noteCount f_stepCount f_latestRun a_tokenKinds a_tokenOperands a_kinds a_operands a_parents a_behind a_ownFns a_meanings a_generatorFns a_frameTokens a_frameStages a_frameScopes a_keptEndings a_keptSorts a_keptNumbers a_frameCounts a_activeSlots a_variableBinders a_variableOuters a_variableSorts a_variableNumbers a_functionTokens a_functionScopes a_generatorStates a_noteSorts a_noteNumbers
def ru_Y (post : Int32 → SY → Prop) (x1 : Int32) (n : Nat) (v : SY) : Prop := match v with
  | (f_drafted, f_length, f_place, f_there, f_chains, f_functions, f_generators, f_active, f_begins, f_token, f_chain, f_how, f_sort, f_value, f_steps, f_endSort, f_status, f_endNumber, f_over, f_noted, a_draftKind, a_draftWith, a_kind, a_with, a_above, a_as, a_part, a_open, a_means, a_own, a_yields, a_binder, a_outer, a_holdsSort, a_holds, a_fnToken, a_fnChain, a_state, a_gBody, a_gChain, a_gYield, a_closing, a_rowOf, a_many, a_wToken, a_wOperand, a_wChain, a_wSort, a_wHow, a_wValue, a_noteSort, a_noteNumber) => wY_run_42 post x1 n f_drafted f_length f_place f_there f_chains f_functions f_generators f_active f_begins f_token f_chain f_how f_sort f_value f_steps f_endSort f_status f_endNumber f_over f_noted a_draftKind a_draftWith a_kind a_with a_above a_as a_part a_open a_means a_own a_yields a_binder a_outer a_holdsSort a_holds a_fnToken a_fnChain a_state a_gBody a_gChain a_gYield a_closing a_rowOf a_many a_wToken a_wOperand a_wChain a_wSort a_wHow a_wValue a_noteSort a_noteNumber
def ru_q (q : xq_T) (r : Int32) : xq_T := (q.1, q.2.1, q.2.2.1, r, q.2.2.2.2)
section
variable {w : gw_T} {qx : xq_T} {qy : yq_T} {E : ye_T} {S : Nat → List gf_T} {a : Nat} {A' : List Nat} {V : gv_T} {F : gp_T} {G : gg_T} {N : gn_T} {nc sp most : Nat} {f : gf_T} {L : List gf_T} {h s : Int32} {x : Int64}
theorem ru_Yp {postY : Int32 → SY → Prop} {n : Nat} {v : SY} (hE : E.2.2.2 = 0) (hR : yr_R w qy E (false, h, s, x) S (a :: A') V F G N sp v) (hp : wpY_pass (fun v' => ru_Y postY (nI most) n v') v) : ru_Y postY (nI most) (n + 1) v := by
  obtain ⟨bg, tk, ch, hw, so, va, gb, gh, ro, mn, wt, wo, wc, wh, ws, wv, rfl, hP⟩ := hR
  obtain ⟨hbg, _, _⟩ := hP.1.2 rfl
  exact br_t hE (br_t hbg hp)
theorem ru_Yb {postY : Int32 → SY → Prop} {n : Nat} {v : SY} (hE : E.2.2.2 = 0) (hsp : sp < most) (hm : most ≤ 600) (hR : yr_R w qy E (true, h, s, x) S (a :: A') V F G N sp v)
    (hp : ∀ v2, yr_R w qy E (true, h, s, x) S (a :: A') V F G N (sp + 1) v2 → wpY_begin (fun v' => ru_Y postY (nI most) n v') v2) : ru_Y postY (nI most) (n + 1) v := by
  obtain ⟨bg, tk, ch, hw, so, va, gb, gh, ro, mn, wt, wo, wc, wh, ws, wv, rfl, hP⟩ := hR
  obtain ⟨rfl, _⟩ := hP.1.1 rfl
  refine br_t hE (br_f (by decide) (br_f ?_ (nm_r (nI_1 sp) ?_)))
  · rw [nI_eq (by omega) (by omega)]
    omega
  · exact hp _ ⟨1, tk, ch, hw, so, va, gb, gh, ro, mn, wt, wo, wc, wh, ws, wv, rfl, hP⟩
theorem ru_Yl {postY : Int32 → SY → Prop} {n : Nat} {v : SY} (hE : E.2.2.2 = 0) (hR : yr_R w qy E (true, h, s, x) S (a :: A') V F G N sp v) (hsp : sp = most)
    (hp : ∀ v2, yr_R w qy (E.1, 2, E.2.2.1, 1) (true, h, s, x) S (a :: A') V F G N sp v2 → postY 2 v2) : ru_Y postY (nI most) (n + 2) v := by
  obtain ⟨bg, tk, ch, hw, so, va, gb, gh, ro, mn, wt, wo, wc, wh, ws, wv, rfl, hP⟩ := hR
  obtain ⟨rfl, _⟩ := hP.1.1 rfl
  subst hsp
  refine br_t hE (br_f (by decide) (br_t rfl (br_f (by decide) ?_)))
  exact hp _ ⟨1, tk, ch, hw, so, va, gb, gh, ro, mn, wt, wo, wc, wh, ws, wv, rfl, hP⟩
theorem ru_Yo {postY : Int32 → SY → Prop} {n : Nat} {v : SY} {M : gm_T} {A : List Nat} (hE : E.2.2.2 = 1) (hR : yr_R w qy E M S A V F G N sp v) (hp : postY E.2.1 v) : ru_Y postY (nI most) (n + 1) v := by
  obtain ⟨bg, tk, ch, hw, so, va, gb, gh, ro, mn, wt, wo, wc, wh, ws, wv, rfl, hP⟩ := hR
  exact br_f (by rw [hE]; decide) hp
theorem ru_Xc {PX : Int32 → SX → Prop} {n turn : Nat} : ∀ u', ru_X PX (nI most) n (nI (turn + 1)) u' → (match u' with
  | (f_tokenCount, f_scriptSize, f_saidPlace, f_activationCount, f_variableCount, f_functionCount, f_generatorCount, f_ending, f_valueSort, f_valueNumber, f_noteCount, f_stepCount, f_latestRun, a_tokenKinds, a_tokenOperands, a_kinds, a_operands, a_parents, a_behind, a_ownFns, a_meanings, a_generatorFns, a_frameTokens, a_frameStages, a_frameScopes, a_keptEndings, a_keptSorts, a_keptNumbers, a_frameCounts, a_activeSlots, a_variableBinders, a_variableOuters, a_variableSorts, a_variableNumbers, a_functionTokens, a_functionScopes, a_generatorStates, a_noteSorts, a_noteNumbers) => ∀ y : Int32, y = nI turn + 1 → wX_run_33 PX (nI most) n y f_tokenCount f_scriptSize f_saidPlace f_activationCount f_variableCount f_functionCount f_generatorCount f_ending f_valueSort f_valueNumber f_noteCount f_stepCount f_latestRun a_tokenKinds a_tokenOperands a_kinds a_operands a_parents a_behind a_ownFns a_meanings a_generatorFns a_frameTokens a_frameStages a_frameScopes a_keptEndings a_keptSorts a_keptNumbers a_frameCounts a_activeSlots a_variableBinders a_variableOuters a_variableSorts a_variableNumbers a_functionTokens a_functionScopes a_generatorStates a_noteSorts a_noteNumbers) := by
  intro u' hr
  obtain ⟨f_tokenCount, f_scriptSize, f_saidPlace, f_activationCount, f_variableCount, f_functionCount, f_generatorCount, f_ending, f_valueSort, f_valueNumber, f_noteCount, f_stepCount, f_latestRun, a_tokenKinds, a_tokenOperands, a_kinds, a_operands, a_parents, a_behind, a_ownFns, a_meanings, a_generatorFns, a_frameTokens, a_frameStages, a_frameScopes, a_keptEndings, a_keptSorts, a_keptNumbers, a_frameCounts, a_activeSlots, a_variableBinders, a_variableOuters, a_variableSorts, a_variableNumbers, a_functionTokens, a_functionScopes, a_generatorStates, a_noteSorts, a_noteNumbers⟩ := u'
  exact nm_r (nI_1 turn) hr
theorem ru_Xe {M : gm_T} (hw : gw_S w) (I : gk_I w M S (a :: A') V F G nc sp) {turn n : Nat} {u : SX} {PX : Int32 → SX → Prop} (ht : turn < 1000000) (hR : xr_R w qx M S (a :: A') V F G N sp u)
    (h0 : S a = [] → ∀ post, (∀ u', ru_X PX (nI most) n (nI (turn + 1)) u' → post u') → wpX_endActivation post u (nI a))
    (h1 : ∀ f L, S a = f :: L → f.2.1 ≠ 0 → ∀ post, (∀ u', ru_X PX (nI most) n (nI (turn + 1)) u' → post u') → wpX_goOn post u (nI (48 * a + L.length)))
    (h2 : ∀ f L, S a = f :: L → f.2.1 = 0 → sp < most → ∀ post, (∀ u', ru_X PX (nI most) n (nI (turn + 1)) u' → post u') → wpX_beginToken post u (nI (48 * a + L.length)))
    (h3 : ∀ f L, S a = f :: L → f.2.1 = 0 → most ≤ sp → ∀ u', xr_R w (ru_q qx 2) M S (a :: A') V F G N sp u' → PX 2 u') (hm : most ≤ 600) : ru_X PX (nI most) (n + 1) (nI turn) u := by
  have ha := gk_Ia I
  have hl8 : A'.length < 8 := I.2.1.2
  have hsp := I.2.2.2.2.1.2.1
  have hfo : ∀ f L, S a = f :: L → f.2.1 ≤ 3 := fun f L e => (xs_fo I e).2.2.1
  obtain ⟨en, vs, vn, ft, fs, fc, ke, ks, kn, cn, ac, gs, rfl, hP⟩ := hR
  have hc := hP.2.2.1 a ha (Or.inl (List.mem_cons_self ..))
  have e1 : ac (nI (a :: A').length - 1).toNatClampNeg = nI a := xm_tp (d := A'.length) rfl hl8 hP.2.1.1
  have ea : (nI a).toNatClampNeg = a := nI_clamp (by omega)
  have i16 : vp_in (nI a) 16 := vp_in_nI ha (by decide)
  have hlen := xo_len hw I a ha (Or.inl (List.mem_cons_self ..))
  refine br_f (nI_ge (b := 1000000) ht (by decide)) (br_f (nI_nle (n := A'.length + 1) (by omega) (by omega)) ⟨xm_ti (d := A'.length) rfl hl8, nm_r e1 ⟨i16, ?_⟩⟩)
  cases hS : S a with
  | nil =>
    rw [hS] at hc
    have ec : cn (nI a).toNatClampNeg = 0 := by rw [ea, hc.1]; rfl
    refine nm_e ⟨i16, br_t ec ?_⟩
    exact h0 hS _ ru_Xc
  | cons f L =>
    rw [hS] at hc hlen
    have hl : L.length + 1 ≤ 48 := hlen
    have ec : cn (nI a).toNatClampNeg = nI (L.length + 1) := by rw [ea, hc.1]; rfl
    have ek : nI a * 48 + cn (nI a).toNatClampNeg - 1 = nI (48 * a + L.length) := by
      rw [ec, show nI a * 48 = nI (48 * a) from (by rw [Nat.mul_comm]; exact pk_mul a 48), nI_add, show 48 * a + (L.length + 1) = (48 * a + L.length) + 1 from rfl, nI_pred]
    have ekc : (nI (48 * a + L.length)).toNatClampNeg = 48 * a + L.length := nI_clamp (by omega)
    have efs : fs (48 * a + L.length) = nI f.2.1 := hc.2.1.2.1
    have i768 : vp_in (nI (48 * a + L.length)) 768 := vp_in_nI (by omega) (by decide)
    refine nm_r ek ⟨i16, br_f (by rw [ec]; exact nI_ne0 (by omega) (by omega)) ⟨i768, ?_⟩⟩
    have h3s := hfo f L hS
    by_cases z : f.2.1 = 0
    · refine br_t (by rw [ekc, efs, z]; rfl) ?_
      by_cases y : sp < most
      · exact br_f (nI_ge y (by omega)) (h2 f L hS z y _ ru_Xc)
      · refine br_t (nI_le (by omega) (by omega)) ?_
        exact h3 f L hS z (by omega) _ ⟨en, vs, vn, ft, fs, fc, ke, ks, kn, cn, ac, gs, rfl, hP⟩
    · exact br_f (by rw [ekc, efs]; exact nI_ne0 (by omega) (by omega)) (h1 f L hS z _ ru_Xc)
theorem ru_Xo {PX : Int32 → SX → Prop} {n : Nat} {x2 : Int32} {u : SX} (hR : xr_R w qx (false, h, s, x) S [] V F G N sp u)
    (hp : ∀ u', xr_R w (ru_q qx (if h = 1 then 1 else 0)) (false, h, s, x) S [] V F G N sp u' → PX (if h = 1 then 1 else 0) u') : ru_X PX (nI most) (n + 1) x2 u := by
  obtain ⟨en, vs, vn, ft, fs, fc, ke, ks, kn, cn, ac, gs, rfl, hP⟩ := hR
  obtain ⟨hen, _⟩ := hP.1 rfl
  have fin : wX_run_139 PX qx.1 qx.2.1 qx.2.2.1 (nI 0) (nI V.2.2.2.2) (nI F.2.2) (nI G.2.2.2) en vs vn (nI N.2.2) (nI sp) qx.2.2.2.1 qx.2.2.2.2.1 qx.2.2.2.2.2.1 (gw_K w) (gw_v w) qx.2.2.2.2.2.2.1 qx.2.2.2.2.2.2.2.1 qx.2.2.2.2.2.2.2.2 (gw_mn w) (gw_gn w) ft fs fc ke ks kn cn ac V.1 V.2.1 V.2.2.1 V.2.2.2.1 F.1 F.2.1 gs N.1 N.2.1 := by
    refine br_c (fun z => ?_) (fun z => ?_)
    · have e : h = 1 := hen.symm.trans z
      rw [if_pos e] at hp
      exact hp _ ⟨en, vs, vn, ft, fs, fc, ke, ks, kn, cn, ac, gs, rfl, hP⟩
    · have e : ¬ h = 1 := fun y => z (hen.trans y)
      rw [if_neg e] at hp
      exact hp _ ⟨en, vs, vn, ft, fs, fc, ke, ks, kn, cn, ac, gs, rfl, hP⟩
  exact br_c (fun _ => fin) (fun _ => br_t (by decide) fin)
theorem ru_main (hw : gw_S w) (hx : xq_S w qx) (hy : yq_S w qy) (hm6 : most ≤ 600) (hE : E.2.2.2 = 0) (Rel : SX → SY → Prop) (Q : (Int32 → SY → Prop) → Prop)
    (FL : ∀ M S A V F G N sp u v, gk_I w M S A V F G N.2.2 sp → xr_R w (ru_q qx 2) M S A V F G N sp u → yr_R w qy (E.1, 2, E.2.2.1, 1) M S A V F G N sp v → Rel u v)
    (FE : ∀ h s x S V F G N sp u v, gk_I w (false, h, s, x) S [] V F G N.2.2 sp → xr_R w (ru_q qx (if h = 1 then 1 else 0)) (false, h, s, x) S [] V F G N sp u → yr_R w qy (ye_E F h s x) (false, h, s, x) S [] V F G N sp v → Rel u v) :
    ∀ m M S A V F G N sp, gk_I w M S A V F G N.2.2 sp → gk_mu M S A sp ≤ m → sp ≤ most → A ≠ [] →
      (∀ postY, (∀ v, yr_R w qy E M S A V F G N sp v → ∀ nY, m + 1 < nY → ru_Y postY (nI most) nY v) → Q postY) →
      ∀ u nX turn, xr_R w qx M S A V F G N sp u → m < nX → turn + m < 1000000 → ru_X (fun r u' => Q (fun r' v' => r' = r ∧ Rel u' v')) (nI most) nX (nI turn) u := by
  intro m
  induction m with
  | zero =>
    intro M S A V F G N sp I hmu hsp hA
    cases A with
    | nil => exact absurd rfl hA
    | cons a A' =>
      exact absurd hmu (by unfold gk_mu; show ¬ _ + (A'.length + 1) + _ ≤ 0; omega)
  | succ m ih =>
    intro M S A V F G N sp I hmu hsp hA HY u nX turn hR hn ht
    cases A with
    | nil => exact absurd rfl hA
    | cons a A' =>
      obtain ⟨nX, rfl⟩ : ∃ y, nX = y + 1 := ⟨nX - 1, by omega⟩
      have md := (I.2.2.2.2.2.1 a A' rfl).2
      obtain ⟨b, h, s, x⟩ := M
      refine ru_Xe hw I (by omega) hR ?_ ?_ ?_ ?_ hm6
      · intro hS post hpost
        cases b with
        | true =>
          obtain ⟨f, L', e, _⟩ := md.1 rfl
          rw [hS] at e
          cases e
        | false =>
          obtain ⟨h', s', x', G', I', mu', sX, sY⟩ := re_end (qx := qx) (qy := qy) (E := E) hw I hS
          refine sX u post hR (fun u' hR' => hpost u' ?_)
          by_cases hA' : A' = []
          · subst hA'
            obtain ⟨k, rfl⟩ : ∃ y, nX = y + 1 := ⟨nX - 1, by omega⟩
            refine ru_Xo hR' (fun u2 hR2 => ?_)
            refine HY _ (fun v hv nY hnY => ?_)
            obtain ⟨j, rfl⟩ : ∃ y, nY = y + 2 := ⟨nY - 2, by omega⟩
            refine ru_Yp hE hv (sY v _ hv (fun z => absurd rfl z) (fun _ v' hv' => ?_))
            refine ru_Yo rfl hv' ⟨rfl, FE _ _ _ _ _ _ _ _ _ _ _ I' hR2 hv'⟩
          · refine ih _ _ _ _ _ _ _ _ I' (by omega) hsp hA' ?_ u' nX (turn + 1) hR' (by omega) (by omega)
            intro postY hpY
            refine HY _ (fun v hv nY hnY => ?_)
            obtain ⟨j, rfl⟩ : ∃ y, nY = y + 1 := ⟨nY - 1, by omega⟩
            exact ru_Yp hE hv (sY v _ hv (fun _ v' hv' => hpY v' hv' j (by omega)) (fun z => absurd z hA'))
      · intro f L hS hst post hpost
        cases b with
        | true =>
          obtain ⟨f2, L', e, e0⟩ := md.1 rfl
          rw [hS] at e
          cases e
          exact absurd e0 hst
        | false =>
          obtain ⟨M', S', A2, V', F', G', N', I', mu', hA2, sX, sY⟩ := rt_go (E := E) hw hx hy I hS
          refine sX u post hR (fun u' hR' => hpost u' ?_)
          refine ih _ _ _ _ _ _ _ _ I' (by omega) hsp hA2 ?_ u' nX (turn + 1) hR' (by omega) (by omega)
          intro postY hpY
          refine HY _ (fun v hv nY hnY => ?_)
          rcases sY with sY | sY
          · exact hpY v (sY v hv) nY (by omega)
          · obtain ⟨j, rfl⟩ : ∃ y, nY = y + 1 := ⟨nY - 1, by omega⟩
            exact ru_Yp hE hv (sY v _ hv (fun v' hv' => hpY v' hv' j (by omega)))
      · intro f L hS hst hspm post hpost
        cases b with
        | false => exact absurd hst ((md.2 rfl).1 f (by rw [hS]; exact List.mem_cons_self ..))
        | true =>
          obtain ⟨M', S', F', I', mu', sX, sY⟩ := rb_begin (E := E) hw hx hy I (by omega) hS hst
          refine sX u post hR (fun u' hR' => hpost u' ?_)
          refine ih _ _ _ _ _ _ _ _ I' (by omega) (by omega) (List.cons_ne_nil _ _) ?_ u' nX (turn + 1) hR' (by omega) (by omega)
          intro postY hpY
          refine HY _ (fun v hv nY hnY => ?_)
          obtain ⟨j, rfl⟩ : ∃ y, nY = y + 1 := ⟨nY - 1, by omega⟩
          exact ru_Yb hE hspm hm6 hv (fun v2 hv2 => sY v2 _ hv2 (fun v' hv' => hpY v' hv' j (by omega)))
      · intro f L hS hst hspm u' hR'
        cases b with
        | false => exact absurd hst ((md.2 rfl).1 f (by rw [hS]; exact List.mem_cons_self ..))
        | true =>
          refine HY _ (fun v hv nY hnY => ?_)
          obtain ⟨j, rfl⟩ : ∃ y, nY = y + 2 := ⟨nY - 2, by omega⟩
          exact ru_Yl hE hv (by omega) (fun v2 hv2 => ⟨rfl, FL _ _ _ _ _ _ _ _ _ _ I hR' hv2⟩)
end
end
section
def gw_S2 (w : gw_T) : Prop :=
  (∀ i, gw_o w i ≤ 3) ∧ (∀ i, i < gw_n w → gw_gn w i = 1 → gw_K w i = 5) ∧ (∀ i, i < gw_n w → gw_mn w i = -1 ∨ ∃ b, b ∈ gw_sc w i ∧ gw_mn w i = nI b) ∧
  (∀ i, i < gw_n w → ∀ b, b ∈ gw_sc w i → b < i ∧ i < gw_e w b ∧ (gw_K w b = 5 ∨ gw_K w b = 4 ∨ gw_K w b = 20))
def il_T (n : Nat) (kx ox bx fx mx gx : Nat → Int32) (ky oy ay py my fy gy : Nat → Int32) : Prop :=
  ∃ w, gw_S w ∧ gw_S2 w ∧ gw_n w = n ∧ gw_K w = kx ∧ gw_v w = ox ∧ gw_mn w = mx ∧ gw_gn w = gx ∧ (∀ i, i < n → bx i = nI (gw_e w i)) ∧ (∀ i, i < n → fx i = gw_ow w i) ∧
    (∀ i, i < n → ky i = gw_K w i ∧ oy i = gw_v w i ∧ my i = gw_mn w i ∧ gy i = gw_gn w i) ∧ (∀ i j, i < n → j < gw_o w i → py (3 * i + j) = nI (gw_c w i j)) ∧
    (∀ i, i < n → fy i = gw_ow w i) ∧ ay 0 = -1 ∧ (∀ i, 0 < i → i < n → ay i = nI (tr_pa (gw_e w) i))
def il_G (gc : Nat) (gs ft cn st cl gy : Nat → Int32) : Prop :=
  ∀ g, g < gc → (st g = 0 ∨ st g = 1 ∨ st g = 2 ∨ st g = 3) ∧ gs g = xr_g (st g) (cl g) ∧ (st g = 1 → ∃ l, l < 48 ∧ cn (8 + g) = nI (l + 1) ∧ ft (48 * (8 + g) + l) = gy g)
def il_E (lr vs : Int32) (vn : Int64) (ft : Nat → Int32) (es : Int32) (en : Int64) : Prop :=
  ((¬ lr = 0 ∧ ¬ lr = 1) ∧ es = -1 ∧ en = 0) ∨ ((lr = 0 ∨ lr = 1) ∧ vs = es ∧ (vs = 3 → ∃ i, i < 600 ∧ vn = lN i ∧ (ft i).toInt64 = en) ∧ (¬ vs = 3 → vn = en))
def il_R (u : SX) (v : SY) : Prop := match u, v with
  | (f_tokenCount, f_scriptSize, f_saidPlace, f_activationCount, f_variableCount, f_functionCount, f_generatorCount, f_ending, f_valueSort, f_valueNumber, f_noteCount, f_stepCount, f_latestRun, a_tokenKinds, a_tokenOperands, a_kinds, a_operands, a_parents, a_behind, a_ownFns, a_meanings, a_generatorFns, a_frameTokens, a_frameStages, a_frameScopes, a_keptEndings, a_keptSorts, a_keptNumbers, a_frameCounts, a_activeSlots, a_variableBinders, a_variableOuters, a_variableSorts, a_variableNumbers, a_functionTokens, a_functionScopes, a_generatorStates, a_noteSorts, a_noteNumbers), (f_drafted, f_length, f_place, f_there, f_chains, f_functions, f_generators, f_active, f_begins, f_token, f_chain, f_how, f_sort, f_value, f_steps, f_endSort, f_status, f_endNumber, f_over, f_noted, a_draftKind, a_draftWith, a_kind, a_with, a_above, a_as, a_part, a_open, a_means, a_own, a_yields, a_binder, a_outer, a_holdsSort, a_holds, a_fnToken, a_fnChain, a_state, a_gBody, a_gChain, a_gYield, a_closing, a_rowOf, a_many, a_wToken, a_wOperand, a_wChain, a_wSort, a_wHow, a_wValue, a_noteSort, a_noteNumber) =>
    (∃ nt, nt ≤ 48 ∧ f_tokenCount = nI nt ∧ f_drafted = nI nt ∧ (∀ i, i < nt → ∃ k, k < 27 ∧ a_tokenKinds i = nI k)) ∧ a_draftKind = a_tokenKinds ∧ a_draftWith = a_tokenOperands ∧ f_place = f_saidPlace ∧
    ((f_scriptSize = 0 ∧ f_there = 0) ∨ (∃ n, 0 < n ∧ n ≤ 48 ∧ f_scriptSize = nI n ∧ f_there = 1 ∧ f_length = nI n ∧ il_T n a_kinds a_operands a_behind a_ownFns a_meanings a_generatorFns a_kind a_with a_above a_part a_means a_own a_yields)) ∧
    (a_binder = a_variableBinders ∧ a_outer = a_variableOuters ∧ a_holdsSort = a_variableSorts ∧ a_holds = a_variableNumbers ∧ a_fnToken = a_functionTokens ∧ a_fnChain = a_functionScopes) ∧
    (f_steps = f_stepCount ∧ f_noted = f_noteCount ∧ a_noteSort = a_noteSorts ∧ a_noteNumber = a_noteNumbers) ∧
    (∃ gc, gc ≤ 8 ∧ f_generatorCount = nI gc ∧ f_generators = nI gc ∧ il_G gc a_generatorStates a_frameTokens a_frameCounts a_state a_closing a_gYield) ∧
    il_E f_latestRun f_valueSort f_valueNumber a_functionTokens f_endSort f_endNumber
def i_Rel (_ : Nat) (u : SX) (v : SY) : Prop := il_R u v
theorem i_up {k : Nat} {u : SX} {v : SY} (h : i_Rel k u v) : i_Rel (k + 3) u v := h
theorem i_vc0 : wpX_init (fun u => wpY_init (fun v => i_Rel 0 u v)) := by
  refine ⟨⟨0, by omega, rfl, rfl, fun i hi => absurd hi (Nat.not_lt_zero _)⟩, rfl, rfl, rfl, Or.inl ⟨rfl, rfl⟩, ⟨rfl, rfl, rfl, rfl, rfl, rfl⟩, ⟨rfl, rfl, rfl, rfl⟩, ⟨0, by omega, rfl, rfl, fun g hg => absurd hg (Nat.not_lt_zero _)⟩, Or.inl ⟨⟨by decide, by decide⟩, rfl, rfl⟩⟩
end
section
section
variable {f_tokenCount f_scriptSize f_saidPlace f_activationCount f_variableCount f_functionCount f_generatorCount f_ending f_valueSort : Int32} {f_valueNumber : Int64} {f_noteCount f_stepCount f_latestRun : Int32} {a_tokenKinds a_tokenOperands a_kinds a_operands a_parents a_behind a_ownFns a_meanings a_generatorFns a_frameTokens a_frameStages a_frameScopes a_keptEndings a_keptSorts : Nat → Int32} {a_keptNumbers : Nat → Int64} {a_frameCounts a_activeSlots a_variableBinders a_variableOuters a_variableSorts : Nat → Int32} {a_variableNumbers : Nat → Int64} {a_functionTokens a_functionScopes a_generatorStates a_noteSorts : Nat → Int32} {a_noteNumbers : Nat → Int64}
theorem il_num {post : Int64 → Prop} {en : Int64} (e3 : f_valueSort = 3 → ∃ i, i < 600 ∧ f_valueNumber = lN i ∧ (a_functionTokens i).toInt64 = en) (e4 : ¬ f_valueSort = 3 → f_valueNumber = en) (h : post en) : wpX_shownNumber post (f_tokenCount, f_scriptSize, f_saidPlace, f_activationCount, f_variableCount, f_functionCount, f_generatorCount, f_ending, f_valueSort, f_valueNumber, f_noteCount, f_stepCount, f_latestRun, a_tokenKinds, a_tokenOperands, a_kinds, a_operands, a_parents, a_behind, a_ownFns, a_meanings, a_generatorFns, a_frameTokens, a_frameStages, a_frameScopes, a_keptEndings, a_keptSorts, a_keptNumbers, a_frameCounts, a_activeSlots, a_variableBinders, a_variableOuters, a_variableSorts, a_variableNumbers, a_functionTokens, a_functionScopes, a_generatorStates, a_noteSorts, a_noteNumbers) := by
  refine br_c (fun y => ?_) (fun y => ?_)
  · obtain ⟨i, hi, ei, ee⟩ := e3 y
    have ev : f_valueNumber.toInt32 = nI i := by rw [ei, lN_i]
    refine ⟨by rw [ev]; exact vp_in_nI hi (by decide), ?_⟩
    rw [ev, nI_clamp (by omega), ee]
    exact h
  · rw [e4 y]
    exact h
end
theorem i_vc_place {k : Nat} {u : SX} {v : SY} (I : i_Rel k u v) (hk : k + 3 ≤ 1536) : wpX_place (fun r => wpY_place (fun r' => r' = r ∧ i_Rel (k + 3) u v) v) u := by
  obtain ⟨f_tokenCount, f_scriptSize, f_saidPlace, f_activationCount, f_variableCount, f_functionCount, f_generatorCount, f_ending, f_valueSort, f_valueNumber, f_noteCount, f_stepCount, f_latestRun, a_tokenKinds, a_tokenOperands, a_kinds, a_operands, a_parents, a_behind, a_ownFns, a_meanings, a_generatorFns, a_frameTokens, a_frameStages, a_frameScopes, a_keptEndings, a_keptSorts, a_keptNumbers, a_frameCounts, a_activeSlots, a_variableBinders, a_variableOuters, a_variableSorts, a_variableNumbers, a_functionTokens, a_functionScopes, a_generatorStates, a_noteSorts, a_noteNumbers⟩ := u
  obtain ⟨f_drafted, f_length, f_place, f_there, f_chains, f_functions, f_generators, f_active, f_begins, f_token, f_chain, f_how, f_sort, f_value, f_steps, f_endSort, f_status, f_endNumber, f_over, f_noted, a_draftKind, a_draftWith, a_kind, a_with, a_above, a_as, a_part, a_open, a_means, a_own, a_yields, a_binder, a_outer, a_holdsSort, a_holds, a_fnToken, a_fnChain, a_state, a_gBody, a_gChain, a_gYield, a_closing, a_rowOf, a_many, a_wToken, a_wOperand, a_wChain, a_wSort, a_wHow, a_wValue, a_noteSort, a_noteNumber⟩ := v
  have I0 : il_R (f_tokenCount, f_scriptSize, f_saidPlace, f_activationCount, f_variableCount, f_functionCount, f_generatorCount, f_ending, f_valueSort, f_valueNumber, f_noteCount, f_stepCount, f_latestRun, a_tokenKinds, a_tokenOperands, a_kinds, a_operands, a_parents, a_behind, a_ownFns, a_meanings, a_generatorFns, a_frameTokens, a_frameStages, a_frameScopes, a_keptEndings, a_keptSorts, a_keptNumbers, a_frameCounts, a_activeSlots, a_variableBinders, a_variableOuters, a_variableSorts, a_variableNumbers, a_functionTokens, a_functionScopes, a_generatorStates, a_noteSorts, a_noteNumbers) (f_drafted, f_length, f_place, f_there, f_chains, f_functions, f_generators, f_active, f_begins, f_token, f_chain, f_how, f_sort, f_value, f_steps, f_endSort, f_status, f_endNumber, f_over, f_noted, a_draftKind, a_draftWith, a_kind, a_with, a_above, a_as, a_part, a_open, a_means, a_own, a_yields, a_binder, a_outer, a_holdsSort, a_holds, a_fnToken, a_fnChain, a_state, a_gBody, a_gChain, a_gYield, a_closing, a_rowOf, a_many, a_wToken, a_wOperand, a_wChain, a_wSort, a_wHow, a_wValue, a_noteSort, a_noteNumber) := I
  obtain ⟨⟨nt, hnt, rfl, rfl, hkd⟩, rfl, rfl, rfl, hT, ⟨rfl, rfl, rfl, rfl, rfl, rfl⟩, ⟨rfl, rfl, rfl, rfl⟩, ⟨gc, hgc, rfl, rfl, hG⟩, hE⟩ := I
  exact ⟨rfl, I0⟩
theorem i_vc_steps {k : Nat} {u : SX} {v : SY} (I : i_Rel k u v) (hk : k + 3 ≤ 1536) : wpX_steps (fun r => wpY_steps (fun r' => r' = r ∧ i_Rel (k + 3) u v) v) u := by
  obtain ⟨f_tokenCount, f_scriptSize, f_saidPlace, f_activationCount, f_variableCount, f_functionCount, f_generatorCount, f_ending, f_valueSort, f_valueNumber, f_noteCount, f_stepCount, f_latestRun, a_tokenKinds, a_tokenOperands, a_kinds, a_operands, a_parents, a_behind, a_ownFns, a_meanings, a_generatorFns, a_frameTokens, a_frameStages, a_frameScopes, a_keptEndings, a_keptSorts, a_keptNumbers, a_frameCounts, a_activeSlots, a_variableBinders, a_variableOuters, a_variableSorts, a_variableNumbers, a_functionTokens, a_functionScopes, a_generatorStates, a_noteSorts, a_noteNumbers⟩ := u
  obtain ⟨f_drafted, f_length, f_place, f_there, f_chains, f_functions, f_generators, f_active, f_begins, f_token, f_chain, f_how, f_sort, f_value, f_steps, f_endSort, f_status, f_endNumber, f_over, f_noted, a_draftKind, a_draftWith, a_kind, a_with, a_above, a_as, a_part, a_open, a_means, a_own, a_yields, a_binder, a_outer, a_holdsSort, a_holds, a_fnToken, a_fnChain, a_state, a_gBody, a_gChain, a_gYield, a_closing, a_rowOf, a_many, a_wToken, a_wOperand, a_wChain, a_wSort, a_wHow, a_wValue, a_noteSort, a_noteNumber⟩ := v
  have I0 : il_R (f_tokenCount, f_scriptSize, f_saidPlace, f_activationCount, f_variableCount, f_functionCount, f_generatorCount, f_ending, f_valueSort, f_valueNumber, f_noteCount, f_stepCount, f_latestRun, a_tokenKinds, a_tokenOperands, a_kinds, a_operands, a_parents, a_behind, a_ownFns, a_meanings, a_generatorFns, a_frameTokens, a_frameStages, a_frameScopes, a_keptEndings, a_keptSorts, a_keptNumbers, a_frameCounts, a_activeSlots, a_variableBinders, a_variableOuters, a_variableSorts, a_variableNumbers, a_functionTokens, a_functionScopes, a_generatorStates, a_noteSorts, a_noteNumbers) (f_drafted, f_length, f_place, f_there, f_chains, f_functions, f_generators, f_active, f_begins, f_token, f_chain, f_how, f_sort, f_value, f_steps, f_endSort, f_status, f_endNumber, f_over, f_noted, a_draftKind, a_draftWith, a_kind, a_with, a_above, a_as, a_part, a_open, a_means, a_own, a_yields, a_binder, a_outer, a_holdsSort, a_holds, a_fnToken, a_fnChain, a_state, a_gBody, a_gChain, a_gYield, a_closing, a_rowOf, a_many, a_wToken, a_wOperand, a_wChain, a_wSort, a_wHow, a_wValue, a_noteSort, a_noteNumber) := I
  obtain ⟨⟨nt, hnt, rfl, rfl, hkd⟩, rfl, rfl, rfl, hT, ⟨rfl, rfl, rfl, rfl, rfl, rfl⟩, ⟨rfl, rfl, rfl, rfl⟩, ⟨gc, hgc, rfl, rfl, hG⟩, hE⟩ := I
  exact ⟨rfl, I0⟩
theorem i_vc_wipe {k : Nat} {u : SX} {v : SY} (I : i_Rel k u v) (hk : k + 3 ≤ 1536) : wpX_wipe (fun r u' => wpY_wipe (fun r' v' => r' = r ∧ i_Rel (k + 3) u' v') v) u := by
  obtain ⟨f_tokenCount, f_scriptSize, f_saidPlace, f_activationCount, f_variableCount, f_functionCount, f_generatorCount, f_ending, f_valueSort, f_valueNumber, f_noteCount, f_stepCount, f_latestRun, a_tokenKinds, a_tokenOperands, a_kinds, a_operands, a_parents, a_behind, a_ownFns, a_meanings, a_generatorFns, a_frameTokens, a_frameStages, a_frameScopes, a_keptEndings, a_keptSorts, a_keptNumbers, a_frameCounts, a_activeSlots, a_variableBinders, a_variableOuters, a_variableSorts, a_variableNumbers, a_functionTokens, a_functionScopes, a_generatorStates, a_noteSorts, a_noteNumbers⟩ := u
  obtain ⟨f_drafted, f_length, f_place, f_there, f_chains, f_functions, f_generators, f_active, f_begins, f_token, f_chain, f_how, f_sort, f_value, f_steps, f_endSort, f_status, f_endNumber, f_over, f_noted, a_draftKind, a_draftWith, a_kind, a_with, a_above, a_as, a_part, a_open, a_means, a_own, a_yields, a_binder, a_outer, a_holdsSort, a_holds, a_fnToken, a_fnChain, a_state, a_gBody, a_gChain, a_gYield, a_closing, a_rowOf, a_many, a_wToken, a_wOperand, a_wChain, a_wSort, a_wHow, a_wValue, a_noteSort, a_noteNumber⟩ := v
  have I0 : il_R (f_tokenCount, f_scriptSize, f_saidPlace, f_activationCount, f_variableCount, f_functionCount, f_generatorCount, f_ending, f_valueSort, f_valueNumber, f_noteCount, f_stepCount, f_latestRun, a_tokenKinds, a_tokenOperands, a_kinds, a_operands, a_parents, a_behind, a_ownFns, a_meanings, a_generatorFns, a_frameTokens, a_frameStages, a_frameScopes, a_keptEndings, a_keptSorts, a_keptNumbers, a_frameCounts, a_activeSlots, a_variableBinders, a_variableOuters, a_variableSorts, a_variableNumbers, a_functionTokens, a_functionScopes, a_generatorStates, a_noteSorts, a_noteNumbers) (f_drafted, f_length, f_place, f_there, f_chains, f_functions, f_generators, f_active, f_begins, f_token, f_chain, f_how, f_sort, f_value, f_steps, f_endSort, f_status, f_endNumber, f_over, f_noted, a_draftKind, a_draftWith, a_kind, a_with, a_above, a_as, a_part, a_open, a_means, a_own, a_yields, a_binder, a_outer, a_holdsSort, a_holds, a_fnToken, a_fnChain, a_state, a_gBody, a_gChain, a_gYield, a_closing, a_rowOf, a_many, a_wToken, a_wOperand, a_wChain, a_wSort, a_wHow, a_wValue, a_noteSort, a_noteNumber) := I
  obtain ⟨⟨nt, hnt, rfl, rfl, hkd⟩, rfl, rfl, rfl, hT, ⟨rfl, rfl, rfl, rfl, rfl, rfl⟩, ⟨rfl, rfl, rfl, rfl⟩, ⟨gc, hgc, rfl, rfl, hG⟩, hE⟩ := I
  exact ⟨rfl, ⟨0, by omega, rfl, rfl, fun i hi => absurd hi (Nat.not_lt_zero _)⟩, rfl, rfl, rfl, hT, ⟨rfl, rfl, rfl, rfl, rfl, rfl⟩, ⟨rfl, rfl, rfl, rfl⟩, ⟨gc, hgc, rfl, rfl, hG⟩, hE⟩
theorem i_vc_sort {k : Nat} {u : SX} {v : SY} (I : i_Rel k u v) (hk : k + 3 ≤ 1536) : wpX_sort (fun r => wpY_sort (fun r' => r' = r ∧ i_Rel (k + 3) u v) v) u := by
  obtain ⟨f_tokenCount, f_scriptSize, f_saidPlace, f_activationCount, f_variableCount, f_functionCount, f_generatorCount, f_ending, f_valueSort, f_valueNumber, f_noteCount, f_stepCount, f_latestRun, a_tokenKinds, a_tokenOperands, a_kinds, a_operands, a_parents, a_behind, a_ownFns, a_meanings, a_generatorFns, a_frameTokens, a_frameStages, a_frameScopes, a_keptEndings, a_keptSorts, a_keptNumbers, a_frameCounts, a_activeSlots, a_variableBinders, a_variableOuters, a_variableSorts, a_variableNumbers, a_functionTokens, a_functionScopes, a_generatorStates, a_noteSorts, a_noteNumbers⟩ := u
  obtain ⟨f_drafted, f_length, f_place, f_there, f_chains, f_functions, f_generators, f_active, f_begins, f_token, f_chain, f_how, f_sort, f_value, f_steps, f_endSort, f_status, f_endNumber, f_over, f_noted, a_draftKind, a_draftWith, a_kind, a_with, a_above, a_as, a_part, a_open, a_means, a_own, a_yields, a_binder, a_outer, a_holdsSort, a_holds, a_fnToken, a_fnChain, a_state, a_gBody, a_gChain, a_gYield, a_closing, a_rowOf, a_many, a_wToken, a_wOperand, a_wChain, a_wSort, a_wHow, a_wValue, a_noteSort, a_noteNumber⟩ := v
  have I0 : il_R (f_tokenCount, f_scriptSize, f_saidPlace, f_activationCount, f_variableCount, f_functionCount, f_generatorCount, f_ending, f_valueSort, f_valueNumber, f_noteCount, f_stepCount, f_latestRun, a_tokenKinds, a_tokenOperands, a_kinds, a_operands, a_parents, a_behind, a_ownFns, a_meanings, a_generatorFns, a_frameTokens, a_frameStages, a_frameScopes, a_keptEndings, a_keptSorts, a_keptNumbers, a_frameCounts, a_activeSlots, a_variableBinders, a_variableOuters, a_variableSorts, a_variableNumbers, a_functionTokens, a_functionScopes, a_generatorStates, a_noteSorts, a_noteNumbers) (f_drafted, f_length, f_place, f_there, f_chains, f_functions, f_generators, f_active, f_begins, f_token, f_chain, f_how, f_sort, f_value, f_steps, f_endSort, f_status, f_endNumber, f_over, f_noted, a_draftKind, a_draftWith, a_kind, a_with, a_above, a_as, a_part, a_open, a_means, a_own, a_yields, a_binder, a_outer, a_holdsSort, a_holds, a_fnToken, a_fnChain, a_state, a_gBody, a_gChain, a_gYield, a_closing, a_rowOf, a_many, a_wToken, a_wOperand, a_wChain, a_wSort, a_wHow, a_wValue, a_noteSort, a_noteNumber) := I
  obtain ⟨⟨nt, hnt, rfl, rfl, hkd⟩, rfl, rfl, rfl, hT, ⟨rfl, rfl, rfl, rfl, rfl, rfl⟩, ⟨rfl, rfl, rfl, rfl⟩, ⟨gc, hgc, rfl, rfl, hG⟩, hE⟩ := I
  rcases hE with ⟨⟨n0, n1⟩, e1, e2⟩ | ⟨c, e1, _⟩
  · exact br_f n0 (br_f n1 ⟨e1, I0⟩)
  · refine br_c (fun _ => ⟨e1.symm, I0⟩) (fun z => br_t ?_ ⟨e1.symm, I0⟩)
    rcases c with c | c
    · exact absurd c z
    · exact c
theorem i_vc_number {k : Nat} {u : SX} {v : SY} (I : i_Rel k u v) (hk : k + 3 ≤ 1536) : wpX_number (fun r => wpY_number (fun r' => r' = r ∧ i_Rel (k + 3) u v) v) u := by
  obtain ⟨f_tokenCount, f_scriptSize, f_saidPlace, f_activationCount, f_variableCount, f_functionCount, f_generatorCount, f_ending, f_valueSort, f_valueNumber, f_noteCount, f_stepCount, f_latestRun, a_tokenKinds, a_tokenOperands, a_kinds, a_operands, a_parents, a_behind, a_ownFns, a_meanings, a_generatorFns, a_frameTokens, a_frameStages, a_frameScopes, a_keptEndings, a_keptSorts, a_keptNumbers, a_frameCounts, a_activeSlots, a_variableBinders, a_variableOuters, a_variableSorts, a_variableNumbers, a_functionTokens, a_functionScopes, a_generatorStates, a_noteSorts, a_noteNumbers⟩ := u
  obtain ⟨f_drafted, f_length, f_place, f_there, f_chains, f_functions, f_generators, f_active, f_begins, f_token, f_chain, f_how, f_sort, f_value, f_steps, f_endSort, f_status, f_endNumber, f_over, f_noted, a_draftKind, a_draftWith, a_kind, a_with, a_above, a_as, a_part, a_open, a_means, a_own, a_yields, a_binder, a_outer, a_holdsSort, a_holds, a_fnToken, a_fnChain, a_state, a_gBody, a_gChain, a_gYield, a_closing, a_rowOf, a_many, a_wToken, a_wOperand, a_wChain, a_wSort, a_wHow, a_wValue, a_noteSort, a_noteNumber⟩ := v
  have I0 : il_R (f_tokenCount, f_scriptSize, f_saidPlace, f_activationCount, f_variableCount, f_functionCount, f_generatorCount, f_ending, f_valueSort, f_valueNumber, f_noteCount, f_stepCount, f_latestRun, a_tokenKinds, a_tokenOperands, a_kinds, a_operands, a_parents, a_behind, a_ownFns, a_meanings, a_generatorFns, a_frameTokens, a_frameStages, a_frameScopes, a_keptEndings, a_keptSorts, a_keptNumbers, a_frameCounts, a_activeSlots, a_variableBinders, a_variableOuters, a_variableSorts, a_variableNumbers, a_functionTokens, a_functionScopes, a_generatorStates, a_noteSorts, a_noteNumbers) (f_drafted, f_length, f_place, f_there, f_chains, f_functions, f_generators, f_active, f_begins, f_token, f_chain, f_how, f_sort, f_value, f_steps, f_endSort, f_status, f_endNumber, f_over, f_noted, a_draftKind, a_draftWith, a_kind, a_with, a_above, a_as, a_part, a_open, a_means, a_own, a_yields, a_binder, a_outer, a_holdsSort, a_holds, a_fnToken, a_fnChain, a_state, a_gBody, a_gChain, a_gYield, a_closing, a_rowOf, a_many, a_wToken, a_wOperand, a_wChain, a_wSort, a_wHow, a_wValue, a_noteSort, a_noteNumber) := I
  obtain ⟨⟨nt, hnt, rfl, rfl, hkd⟩, rfl, rfl, rfl, hT, ⟨rfl, rfl, rfl, rfl, rfl, rfl⟩, ⟨rfl, rfl, rfl, rfl⟩, ⟨gc, hgc, rfl, rfl, hG⟩, hE⟩ := I
  rcases hE with ⟨⟨n0, n1⟩, e1, e2⟩ | ⟨c, e1, e3, e4⟩
  · exact br_f n0 (br_f n1 ⟨e2, I0⟩)
  · refine br_c (fun _ => ?_) (fun z => br_t ?_ ?_)
    · exact il_num e3 e4 ⟨rfl, I0⟩
    · rcases c with c | c
      · exact absurd c z
      · exact c
    · exact il_num e3 e4 ⟨rfl, I0⟩
theorem i_vc_host {k : Nat} {u : SX} {v : SY} (I : i_Rel k u v) (hk : k + 3 ≤ 1536) (v1 : Int32) (v2 : Int32) : wpX_host (fun r => wpY_host (fun r' => r' = r ∧ i_Rel (k + 3) u v) v v1 v2) u v1 v2 := by
  obtain ⟨f_tokenCount, f_scriptSize, f_saidPlace, f_activationCount, f_variableCount, f_functionCount, f_generatorCount, f_ending, f_valueSort, f_valueNumber, f_noteCount, f_stepCount, f_latestRun, a_tokenKinds, a_tokenOperands, a_kinds, a_operands, a_parents, a_behind, a_ownFns, a_meanings, a_generatorFns, a_frameTokens, a_frameStages, a_frameScopes, a_keptEndings, a_keptSorts, a_keptNumbers, a_frameCounts, a_activeSlots, a_variableBinders, a_variableOuters, a_variableSorts, a_variableNumbers, a_functionTokens, a_functionScopes, a_generatorStates, a_noteSorts, a_noteNumbers⟩ := u
  obtain ⟨f_drafted, f_length, f_place, f_there, f_chains, f_functions, f_generators, f_active, f_begins, f_token, f_chain, f_how, f_sort, f_value, f_steps, f_endSort, f_status, f_endNumber, f_over, f_noted, a_draftKind, a_draftWith, a_kind, a_with, a_above, a_as, a_part, a_open, a_means, a_own, a_yields, a_binder, a_outer, a_holdsSort, a_holds, a_fnToken, a_fnChain, a_state, a_gBody, a_gChain, a_gYield, a_closing, a_rowOf, a_many, a_wToken, a_wOperand, a_wChain, a_wSort, a_wHow, a_wValue, a_noteSort, a_noteNumber⟩ := v
  have I0 : il_R (f_tokenCount, f_scriptSize, f_saidPlace, f_activationCount, f_variableCount, f_functionCount, f_generatorCount, f_ending, f_valueSort, f_valueNumber, f_noteCount, f_stepCount, f_latestRun, a_tokenKinds, a_tokenOperands, a_kinds, a_operands, a_parents, a_behind, a_ownFns, a_meanings, a_generatorFns, a_frameTokens, a_frameStages, a_frameScopes, a_keptEndings, a_keptSorts, a_keptNumbers, a_frameCounts, a_activeSlots, a_variableBinders, a_variableOuters, a_variableSorts, a_variableNumbers, a_functionTokens, a_functionScopes, a_generatorStates, a_noteSorts, a_noteNumbers) (f_drafted, f_length, f_place, f_there, f_chains, f_functions, f_generators, f_active, f_begins, f_token, f_chain, f_how, f_sort, f_value, f_steps, f_endSort, f_status, f_endNumber, f_over, f_noted, a_draftKind, a_draftWith, a_kind, a_with, a_above, a_as, a_part, a_open, a_means, a_own, a_yields, a_binder, a_outer, a_holdsSort, a_holds, a_fnToken, a_fnChain, a_state, a_gBody, a_gChain, a_gYield, a_closing, a_rowOf, a_many, a_wToken, a_wOperand, a_wChain, a_wSort, a_wHow, a_wValue, a_noteSort, a_noteNumber) := I
  obtain ⟨⟨nt, hnt, rfl, rfl, hkd⟩, rfl, rfl, rfl, hT, ⟨rfl, rfl, rfl, rfl, rfl, rfl⟩, ⟨rfl, rfl, rfl, rfl⟩, ⟨gc, hgc, rfl, rfl, hG⟩, hE⟩ := I
  by_cases c1 : v1 = -1
  · exact br_t c1 (br_t c1 ⟨rfl, I0⟩)
  · by_cases c2 : v1 < 0
    · exact br_f c1 (br_t c2 (br_f c1 (br_t c2 ⟨rfl, I0⟩)))
    · obtain ⟨j, hj, rfl⟩ := nI_of c2
      refine br_f c1 (br_f c2 (br_c (fun c3 => br_f c1 (br_f c2 (br_t c3 ⟨rfl, I0⟩))) (fun c3 => ?_)))
      by_cases c4 : j < 40
      · have d4 : nI j < 40 := nI_lt (b := 40) c4 (by decide)
        have d5 : ¬ (39 : Int32) < nI j := nI_nlt (a := 39) (by omega) (by decide)
        have i4 : vp_in (nI j) 40 := vp_in_nI c4 (by decide)
        refine br_t d4 (br_c (fun c5 => ⟨i4, ?_⟩) (fun c5 => br_c (fun c6 => ⟨i4, ?_⟩) (fun c6 => ?_)))
        · subst c5
          exact br_f c1 (br_f c2 (br_f c3 (br_f d5 (br_f (by decide) (br_t (by decide) (br_t rfl ⟨i4, rfl, I0⟩))))))
        · subst c6
          exact br_f c1 (br_f c2 (br_f c3 (br_f d5 (br_f (by decide) (br_t (by decide) (br_f (by decide) ⟨i4, rfl, I0⟩))))))
        · refine br_f c1 (br_f c2 (br_f c3 (br_f d5 (br_c (fun _ => ⟨rfl, I0⟩) (fun c7 => br_f ?_ ⟨rfl, I0⟩)))))
          intro z
          obtain ⟨i, hi, rfl⟩ := nI_of2 (M := 1) (n := 1) (by decide) c7 z
          have : i = 0 ∨ i = 1 := by omega
          rcases this with rfl | rfl
          · exact c5 rfl
          · exact c6 rfl
      · exact br_f (nI_nlt (b := 40) (by omega) hj) (br_f c1 (br_f c2 (br_f c3 (br_t (nI_lt (a := 39) (by omega) hj) ⟨rfl, I0⟩))))
theorem il_in {post : Int32 → Prop} {p : Int32} {n : Nat} (hn : n < 2 ^ 31) (h0 : (∀ j, j < n → p ≠ nI j) → post 0) (h1 : ∀ j, j < n → p = nI j → post 1) : wpY_in post p (nI n) := by
  refine br_c (fun c => ?_) (fun c => ?_)
  · refine h0 (fun j hj e => ?_)
    rw [e] at c
    exact nI_pos (by omega) c
  · obtain ⟨j, hj, rfl⟩ := nI_of c
    refine br_c (fun d => ?_) (fun d => ?_)
    · refine h0 (fun i hi e => ?_)
      rw [nI_eq hj (by omega)] at e
      rw [nI_leI (by omega) hj] at d
      omega
    · rw [nI_leI (by omega) hj] at d
      exact h1 j (by omega) rfl
section
variable {f_drafted f_length f_place f_there f_chains f_functions f_generators f_active f_begins f_token f_chain f_how f_sort : Int32} {f_value : Int64} {f_steps f_endSort f_status : Int32} {f_endNumber : Int64} {f_over f_noted : Int32} {a_draftKind a_draftWith a_kind a_with a_above a_as a_part a_open a_means a_own a_yields a_binder a_outer a_holdsSort : Nat → Int32} {a_holds : Nat → Int64} {a_fnToken a_fnChain a_state a_gBody a_gChain a_gYield a_closing a_rowOf a_many a_wToken a_wOperand a_wChain a_wSort a_wHow : Nat → Int32} {a_wValue : Nat → Int64} {a_noteSort : Nat → Int32} {a_noteNumber : Nat → Int64}
theorem il_genY {post : Int32 → Prop} {gc : Nat} (hgc : gc ≤ 8) (e : f_generators = nI gc) {p : Int32} (h1 : ∀ j, j < gc → p = nI j → post (a_state j)) (h0 : (∀ j, j < gc → p ≠ nI j) → post (-1)) : wpY_generator post (f_drafted, f_length, f_place, f_there, f_chains, f_functions, f_generators, f_active, f_begins, f_token, f_chain, f_how, f_sort, f_value, f_steps, f_endSort, f_status, f_endNumber, f_over, f_noted, a_draftKind, a_draftWith, a_kind, a_with, a_above, a_as, a_part, a_open, a_means, a_own, a_yields, a_binder, a_outer, a_holdsSort, a_holds, a_fnToken, a_fnChain, a_state, a_gBody, a_gChain, a_gYield, a_closing, a_rowOf, a_many, a_wToken, a_wOperand, a_wChain, a_wSort, a_wHow, a_wValue, a_noteSort, a_noteNumber) p := by
  subst e
  unfold wpY_generator
  refine il_in (by omega) (fun z => br_t rfl (h0 z)) (fun j hj e2 => br_f (by decide) ?_)
  have h := h1 j hj e2
  subst e2
  refine ⟨vp_in_nI (by omega) (by decide), ?_⟩
  rw [nI_clamp (by omega)]
  exact h
theorem il_waitsY {post : Int32 → Prop} {gc : Nat} (hgc : gc ≤ 8) (e : f_generators = nI gc) {p : Int32} (h1 : ∀ j, j < gc → p = nI j → a_state j = 1 → post (a_gYield j)) (h2 : ∀ j, j < gc → p = nI j → ¬ a_state j = 1 → post (-1)) (h0 : (∀ j, j < gc → p ≠ nI j) → post (-1)) : wpY_waits post (f_drafted, f_length, f_place, f_there, f_chains, f_functions, f_generators, f_active, f_begins, f_token, f_chain, f_how, f_sort, f_value, f_steps, f_endSort, f_status, f_endNumber, f_over, f_noted, a_draftKind, a_draftWith, a_kind, a_with, a_above, a_as, a_part, a_open, a_means, a_own, a_yields, a_binder, a_outer, a_holdsSort, a_holds, a_fnToken, a_fnChain, a_state, a_gBody, a_gChain, a_gYield, a_closing, a_rowOf, a_many, a_wToken, a_wOperand, a_wChain, a_wSort, a_wHow, a_wValue, a_noteSort, a_noteNumber) p := by
  subst e
  unfold wpY_waits
  refine il_in (by omega) (fun z => br_t rfl (h0 z)) (fun j hj e2 => br_f (by decide) ?_)
  have h := h1 j hj e2
  have h' := h2 j hj e2
  subst e2
  have i8 : vp_in (nI j) 8 := vp_in_nI (by omega) (by decide)
  refine ⟨i8, ?_⟩
  rw [nI_clamp (by omega)]
  exact br_c (fun z => ⟨i8, h z⟩) (fun z => h' z)
end
theorem i_vc_generator {k : Nat} {u : SX} {v : SY} (I : i_Rel k u v) (hk : k + 3 ≤ 1536) (v1 : Int32) : wpX_generator (fun r => wpY_generator (fun r' => r' = r ∧ i_Rel (k + 3) u v) v v1) u v1 := by
  obtain ⟨f_tokenCount, f_scriptSize, f_saidPlace, f_activationCount, f_variableCount, f_functionCount, f_generatorCount, f_ending, f_valueSort, f_valueNumber, f_noteCount, f_stepCount, f_latestRun, a_tokenKinds, a_tokenOperands, a_kinds, a_operands, a_parents, a_behind, a_ownFns, a_meanings, a_generatorFns, a_frameTokens, a_frameStages, a_frameScopes, a_keptEndings, a_keptSorts, a_keptNumbers, a_frameCounts, a_activeSlots, a_variableBinders, a_variableOuters, a_variableSorts, a_variableNumbers, a_functionTokens, a_functionScopes, a_generatorStates, a_noteSorts, a_noteNumbers⟩ := u
  obtain ⟨f_drafted, f_length, f_place, f_there, f_chains, f_functions, f_generators, f_active, f_begins, f_token, f_chain, f_how, f_sort, f_value, f_steps, f_endSort, f_status, f_endNumber, f_over, f_noted, a_draftKind, a_draftWith, a_kind, a_with, a_above, a_as, a_part, a_open, a_means, a_own, a_yields, a_binder, a_outer, a_holdsSort, a_holds, a_fnToken, a_fnChain, a_state, a_gBody, a_gChain, a_gYield, a_closing, a_rowOf, a_many, a_wToken, a_wOperand, a_wChain, a_wSort, a_wHow, a_wValue, a_noteSort, a_noteNumber⟩ := v
  have I0 : il_R (f_tokenCount, f_scriptSize, f_saidPlace, f_activationCount, f_variableCount, f_functionCount, f_generatorCount, f_ending, f_valueSort, f_valueNumber, f_noteCount, f_stepCount, f_latestRun, a_tokenKinds, a_tokenOperands, a_kinds, a_operands, a_parents, a_behind, a_ownFns, a_meanings, a_generatorFns, a_frameTokens, a_frameStages, a_frameScopes, a_keptEndings, a_keptSorts, a_keptNumbers, a_frameCounts, a_activeSlots, a_variableBinders, a_variableOuters, a_variableSorts, a_variableNumbers, a_functionTokens, a_functionScopes, a_generatorStates, a_noteSorts, a_noteNumbers) (f_drafted, f_length, f_place, f_there, f_chains, f_functions, f_generators, f_active, f_begins, f_token, f_chain, f_how, f_sort, f_value, f_steps, f_endSort, f_status, f_endNumber, f_over, f_noted, a_draftKind, a_draftWith, a_kind, a_with, a_above, a_as, a_part, a_open, a_means, a_own, a_yields, a_binder, a_outer, a_holdsSort, a_holds, a_fnToken, a_fnChain, a_state, a_gBody, a_gChain, a_gYield, a_closing, a_rowOf, a_many, a_wToken, a_wOperand, a_wChain, a_wSort, a_wHow, a_wValue, a_noteSort, a_noteNumber) := I
  obtain ⟨⟨nt, hnt, rfl, rfl, hkd⟩, rfl, rfl, rfl, hT, ⟨rfl, rfl, rfl, rfl, rfl, rfl⟩, ⟨rfl, rfl, rfl, rfl⟩, ⟨gc, hgc, rfl, rfl, hG⟩, hE⟩ := I
  by_cases c : ∃ j, j < gc ∧ v1 = nI j
  · obtain ⟨j, hj, rfl⟩ := c
    have ej : (nI j).toNatClampNeg = j := nI_clamp (by omega)
    have i8 : vp_in (nI j) 8 := vp_in_nI (by omega) (by decide)
    obtain ⟨h1, h2, _⟩ := hG j hj
    have key : ∀ i, i < gc → nI j = nI i → a_state i = a_state j := by
      intro i hi e
      rw [nI_eq (by omega) (by omega)] at e
      rw [e]
    refine br_f (nI_pos (by omega)) (br_t (nI_lt hj (by omega)) ⟨i8, ?_⟩)
    rw [ej, h2]
    unfold xr_g
    by_cases z : a_state j = 2 ∧ a_closing j = 1
    · rw [if_pos z]
      refine br_t rfl ?_
      exact il_genY hgc rfl (fun i hi e => ⟨(key i hi e).trans z.1, I0⟩) (fun y => absurd rfl (y j hj))
    · rw [if_neg z]
      refine br_f ?_ ⟨i8, ?_⟩
      · rcases h1 with e | e | e | e <;> (rw [e]; decide)
      · exact il_genY hgc rfl (fun i hi e => ⟨key i hi e, I0⟩) (fun y => absurd rfl (y j hj))
  · refine br_c (fun _ => ?_) (fun d => br_f ?_ ?_)
    · exact il_genY hgc rfl (fun i hi e => absurd ⟨i, hi, e⟩ c) (fun _ => ⟨rfl, I0⟩)
    · intro z
      obtain ⟨j, hj, rfl⟩ := nI_of d
      rw [nI_ltI hj (by omega)] at z
      exact c ⟨j, z, rfl⟩
    · exact il_genY hgc rfl (fun i hi e => absurd ⟨i, hi, e⟩ c) (fun _ => ⟨rfl, I0⟩)
theorem i_vc_waits {k : Nat} {u : SX} {v : SY} (I : i_Rel k u v) (hk : k + 3 ≤ 1536) (v1 : Int32) : wpX_waits (fun r => wpY_waits (fun r' => r' = r ∧ i_Rel (k + 3) u v) v v1) u v1 := by
  obtain ⟨f_tokenCount, f_scriptSize, f_saidPlace, f_activationCount, f_variableCount, f_functionCount, f_generatorCount, f_ending, f_valueSort, f_valueNumber, f_noteCount, f_stepCount, f_latestRun, a_tokenKinds, a_tokenOperands, a_kinds, a_operands, a_parents, a_behind, a_ownFns, a_meanings, a_generatorFns, a_frameTokens, a_frameStages, a_frameScopes, a_keptEndings, a_keptSorts, a_keptNumbers, a_frameCounts, a_activeSlots, a_variableBinders, a_variableOuters, a_variableSorts, a_variableNumbers, a_functionTokens, a_functionScopes, a_generatorStates, a_noteSorts, a_noteNumbers⟩ := u
  obtain ⟨f_drafted, f_length, f_place, f_there, f_chains, f_functions, f_generators, f_active, f_begins, f_token, f_chain, f_how, f_sort, f_value, f_steps, f_endSort, f_status, f_endNumber, f_over, f_noted, a_draftKind, a_draftWith, a_kind, a_with, a_above, a_as, a_part, a_open, a_means, a_own, a_yields, a_binder, a_outer, a_holdsSort, a_holds, a_fnToken, a_fnChain, a_state, a_gBody, a_gChain, a_gYield, a_closing, a_rowOf, a_many, a_wToken, a_wOperand, a_wChain, a_wSort, a_wHow, a_wValue, a_noteSort, a_noteNumber⟩ := v
  have I0 : il_R (f_tokenCount, f_scriptSize, f_saidPlace, f_activationCount, f_variableCount, f_functionCount, f_generatorCount, f_ending, f_valueSort, f_valueNumber, f_noteCount, f_stepCount, f_latestRun, a_tokenKinds, a_tokenOperands, a_kinds, a_operands, a_parents, a_behind, a_ownFns, a_meanings, a_generatorFns, a_frameTokens, a_frameStages, a_frameScopes, a_keptEndings, a_keptSorts, a_keptNumbers, a_frameCounts, a_activeSlots, a_variableBinders, a_variableOuters, a_variableSorts, a_variableNumbers, a_functionTokens, a_functionScopes, a_generatorStates, a_noteSorts, a_noteNumbers) (f_drafted, f_length, f_place, f_there, f_chains, f_functions, f_generators, f_active, f_begins, f_token, f_chain, f_how, f_sort, f_value, f_steps, f_endSort, f_status, f_endNumber, f_over, f_noted, a_draftKind, a_draftWith, a_kind, a_with, a_above, a_as, a_part, a_open, a_means, a_own, a_yields, a_binder, a_outer, a_holdsSort, a_holds, a_fnToken, a_fnChain, a_state, a_gBody, a_gChain, a_gYield, a_closing, a_rowOf, a_many, a_wToken, a_wOperand, a_wChain, a_wSort, a_wHow, a_wValue, a_noteSort, a_noteNumber) := I
  obtain ⟨⟨nt, hnt, rfl, rfl, hkd⟩, rfl, rfl, rfl, hT, ⟨rfl, rfl, rfl, rfl, rfl, rfl⟩, ⟨rfl, rfl, rfl, rfl⟩, ⟨gc, hgc, rfl, rfl, hG⟩, hE⟩ := I
  by_cases c : ∃ j, j < gc ∧ v1 = nI j
  · obtain ⟨j, hj, rfl⟩ := c
    have ej : (nI j).toNatClampNeg = j := nI_clamp (by omega)
    have i8 : vp_in (nI j) 8 := vp_in_nI (by omega) (by decide)
    obtain ⟨h1, h2, h3⟩ := hG j hj
    have key : ∀ i, i < gc → nI j = nI i → i = j := by
      intro i hi e
      rw [nI_eq (by omega) (by omega)] at e
      exact e.symm
    refine br_f (nI_pos (by omega)) (br_f (nI_ge hj (by omega)) ⟨i8, ?_⟩)
    rw [ej, h2]
    by_cases z : a_state j = 1
    · have e1 : xr_g (a_state j) (a_closing j) = 1 := by rw [xr_g, if_neg (fun y => absurd (z.symm.trans y.1) (by decide)), z]
      obtain ⟨l, hl, q1, q2⟩ := h3 z
      have e8 : (8 : Int32) + nI j = nI (8 + j) := nI_add 8 j
      have ec : (nI (8 + j)).toNatClampNeg = 8 + j := nI_clamp (by omega)
      have ek : nI (8 + j) * 48 + a_frameCounts (nI (8 + j)).toNatClampNeg - 1 = nI (48 * (8 + j) + l) := by
        rw [ec, q1, show nI (8 + j) * 48 = nI (48 * (8 + j)) from (by rw [Nat.mul_comm]; exact pk_mul (8 + j) 48), nI_add, show 48 * (8 + j) + (l + 1) = (48 * (8 + j) + l) + 1 from rfl, nI_pred]
      refine br_t e1 (nm_r e8 ⟨vp_in_nI (by omega) (by decide), ?_⟩)
      rw [ek]
      refine ⟨vp_in_nI (by omega) (by decide), ?_⟩
      rw [nI_clamp (by omega), q2]
      exact il_waitsY hgc rfl (fun i hi e _ => ⟨by rw [key i hi e], I0⟩) (fun i hi e y => absurd (by rw [key i hi e]; exact z) y) (fun y => absurd rfl (y j hj))
    · have e1 : ¬ xr_g (a_state j) (a_closing j) = 1 := by
        unfold xr_g
        split
        · decide
        · exact z
      refine br_f e1 ?_
      exact il_waitsY hgc rfl (fun i hi e y => absurd (by rw [← key i hi e]; exact y) z) (fun i hi e y => ⟨rfl, I0⟩) (fun y => absurd rfl (y j hj))
  · refine br_c (fun _ => ?_) (fun d => br_t ?_ ?_)
    · exact il_waitsY hgc rfl (fun i hi e => absurd ⟨i, hi, e⟩ c) (fun i hi e => absurd ⟨i, hi, e⟩ c) (fun _ => ⟨rfl, I0⟩)
    · obtain ⟨j, hj, rfl⟩ := nI_of d
      rw [nI_leI (by omega) hj]
      by_cases z : j < gc
      · exact absurd ⟨j, z, rfl⟩ c
      · omega
    · exact il_waitsY hgc rfl (fun i hi e => absurd ⟨i, hi, e⟩ c) (fun i hi e => absurd ⟨i, hi, e⟩ c) (fun _ => ⟨rfl, I0⟩)
end
section
def to_nm (k : Nat) : Prop := (2 ≤ k ∧ k ≤ 5) ∨ k = 20
def to_ok (nt : Nat) (v1 v2 : Int32) : Prop := nt < 48 ∧ ∃ k, k < 27 ∧ v1 = nI k ∧ (to_nm k → ∃ j, j < 6 ∧ v2 = nI j)
theorem to_no {k nt : Nat} {v2 : Int32} (hk : k < 2 ^ 31) (h : ¬ k < 27) : ¬ to_ok nt (nI k) v2 := by
  rintro ⟨_, i, hi, e, _⟩
  rw [nI_eq hk (by omega)] at e
  omega
theorem to_no2 {k nt : Nat} {v2 : Int32} (hk : k < 27) (hn : to_nm k) (h : ∀ j, j < 6 → v2 ≠ nI j) : ¬ to_ok nt (nI k) v2 := by
  rintro ⟨_, i, hi, e, r⟩
  rw [nI_eq (by omega) (by omega)] at e
  subst e
  obtain ⟨j, hj, e⟩ := r hn
  exact h j hj e
section
variable {f_tokenCount f_scriptSize f_saidPlace f_activationCount f_variableCount f_functionCount f_generatorCount f_ending f_valueSort : Int32} {f_valueNumber : Int64} {f_noteCount f_stepCount f_latestRun : Int32} {a_tokenKinds a_tokenOperands a_kinds a_operands a_parents a_behind a_ownFns a_meanings a_generatorFns a_frameTokens a_frameStages a_frameScopes a_keptEndings a_keptSorts : Nat → Int32} {a_keptNumbers : Nat → Int64} {a_frameCounts a_activeSlots a_variableBinders a_variableOuters a_variableSorts : Nat → Int32} {a_variableNumbers : Nat → Int64} {a_functionTokens a_functionScopes a_generatorStates a_noteSorts : Nat → Int32} {a_noteNumbers : Nat → Int64}
theorem to_X {post : Int32 → SX → Prop} {nt : Nat} (hnt : nt ≤ 48) (e : f_tokenCount = nI nt) {v1 v2 : Int32}
    (h1 : to_ok nt v1 v2 → post 1 (nI (nt + 1), f_scriptSize, f_saidPlace, f_activationCount, f_variableCount, f_functionCount, f_generatorCount, f_ending, f_valueSort, f_valueNumber, f_noteCount, f_stepCount, f_latestRun, upd a_tokenKinds nt v1, upd a_tokenOperands nt v2, a_kinds, a_operands, a_parents, a_behind, a_ownFns, a_meanings, a_generatorFns, a_frameTokens, a_frameStages, a_frameScopes, a_keptEndings, a_keptSorts, a_keptNumbers, a_frameCounts, a_activeSlots, a_variableBinders, a_variableOuters, a_variableSorts, a_variableNumbers, a_functionTokens, a_functionScopes, a_generatorStates, a_noteSorts, a_noteNumbers)) (h0 : ¬ to_ok nt v1 v2 → post 0 (nI nt, f_scriptSize, f_saidPlace, f_activationCount, f_variableCount, f_functionCount, f_generatorCount, f_ending, f_valueSort, f_valueNumber, f_noteCount, f_stepCount, f_latestRun, a_tokenKinds, a_tokenOperands, a_kinds, a_operands, a_parents, a_behind, a_ownFns, a_meanings, a_generatorFns, a_frameTokens, a_frameStages, a_frameScopes, a_keptEndings, a_keptSorts, a_keptNumbers, a_frameCounts, a_activeSlots, a_variableBinders, a_variableOuters, a_variableSorts, a_variableNumbers, a_functionTokens, a_functionScopes, a_generatorStates, a_noteSorts, a_noteNumbers)) : wpX_token post (f_tokenCount, f_scriptSize, f_saidPlace, f_activationCount, f_variableCount, f_functionCount, f_generatorCount, f_ending, f_valueSort, f_valueNumber, f_noteCount, f_stepCount, f_latestRun, a_tokenKinds, a_tokenOperands, a_kinds, a_operands, a_parents, a_behind, a_ownFns, a_meanings, a_generatorFns, a_frameTokens, a_frameStages, a_frameScopes, a_keptEndings, a_keptSorts, a_keptNumbers, a_frameCounts, a_activeSlots, a_variableBinders, a_variableOuters, a_variableSorts, a_variableNumbers, a_functionTokens, a_functionScopes, a_generatorStates, a_noteSorts, a_noteNumbers) v1 v2 := by
  subst e
  by_cases c48 : 48 ≤ nt
  · exact br_t (nI_le (a := 48) c48 (by omega)) (h0 (fun z => by have := z.1; omega))
  · refine br_f (nI_ge (b := 48) (by omega) (by decide)) (br_c (fun c => h0 ?_) (fun c => ?_))
    · rintro ⟨_, i, hi, e, _⟩
      rw [e] at c
      exact nI_pos (by omega) c
    · obtain ⟨j, hj, rfl⟩ := nI_of c
      by_cases c27 : j < 27
      · refine br_t (nI_le (b := 26) (by omega) (by decide)) ?_
        have et : (nI nt).toNatClampNeg = nt := nI_clamp (by omega)
        have it : vp_in (nI nt) 48 := vp_in_nI (by omega) (by decide)
        have f59 : to_ok nt (nI j) v2 → wX_token_59 post (nI j) v2 (nI nt) f_scriptSize f_saidPlace f_activationCount f_variableCount f_functionCount f_generatorCount f_ending f_valueSort f_valueNumber f_noteCount f_stepCount f_latestRun a_tokenKinds a_tokenOperands a_kinds a_operands a_parents a_behind a_ownFns a_meanings a_generatorFns a_frameTokens a_frameStages a_frameScopes a_keptEndings a_keptSorts a_keptNumbers a_frameCounts a_activeSlots a_variableBinders a_variableOuters a_variableSorts a_variableNumbers a_functionTokens a_functionScopes a_generatorStates a_noteSorts a_noteNumbers := by
          intro ok
          exact ⟨it, nm_r (by rw [et]) ⟨it, nm_r (by rw [et]) (nm_r (nI_1 nt) (h1 ok))⟩⟩
        have f42n : to_nm j → wX_token_42 post (nI j) v2 1 (nI nt) f_scriptSize f_saidPlace f_activationCount f_variableCount f_functionCount f_generatorCount f_ending f_valueSort f_valueNumber f_noteCount f_stepCount f_latestRun a_tokenKinds a_tokenOperands a_kinds a_operands a_parents a_behind a_ownFns a_meanings a_generatorFns a_frameTokens a_frameStages a_frameScopes a_keptEndings a_keptSorts a_keptNumbers a_frameCounts a_activeSlots a_variableBinders a_variableOuters a_variableSorts a_variableNumbers a_functionTokens a_functionScopes a_generatorStates a_noteSorts a_noteNumbers := by
          intro hn
          refine br_f (by decide) (br_c (fun d => h0 ?_) (fun d => ?_))
          · refine to_no2 c27 hn (fun i hi e => ?_)
            rw [e] at d
            exact nI_pos (by omega) d
          · obtain ⟨i, hi, rfl⟩ := nI_of d
            by_cases c6 : i < 6
            · exact br_t (nI_lt (b := 6) c6 (by decide)) (f59 ⟨by omega, j, c27, rfl, fun _ => ⟨i, c6, rfl⟩⟩)
            · refine br_f (nI_nlt (b := 6) (by omega) hi) (h0 ?_)
              refine to_no2 c27 hn (fun i' hi' e => ?_)
              rw [nI_eq hi (by omega)] at e
              omega
        have f31 : (j = 20 ∨ ¬ to_nm j) → wX_token_31 post (nI j) v2 (nI nt) f_scriptSize f_saidPlace f_activationCount f_variableCount f_functionCount f_generatorCount f_ending f_valueSort f_valueNumber f_noteCount f_stepCount f_latestRun a_tokenKinds a_tokenOperands a_kinds a_operands a_parents a_behind a_ownFns a_meanings a_generatorFns a_frameTokens a_frameStages a_frameScopes a_keptEndings a_keptSorts a_keptNumbers a_frameCounts a_activeSlots a_variableBinders a_variableOuters a_variableSorts a_variableNumbers a_functionTokens a_functionScopes a_generatorStates a_noteSorts a_noteNumbers := by
          intro hn
          by_cases c20 : j = 20
          · subst c20
            exact br_t rfl (f42n (Or.inr rfl))
          · refine br_f ?_ (br_t rfl (f59 ⟨by omega, j, c27, rfl, fun z => ?_⟩))
            · show ¬ nI j = nI 20
              rw [nI_eq hj (by decide)]
              exact c20
            · rcases hn with hn | hn
              · exact absurd hn c20
              · exact absurd z hn
        by_cases c2 : j < 2
        · refine br_t (nI_lt (b := 2) c2 (by decide)) (f31 (Or.inr ?_))
          rintro (z | z) <;> omega
        · refine br_f (nI_nlt (b := 2) (by omega) hj) ?_
          by_cases c5 : j ≤ 5
          · exact br_t (nI_le (b := 5) c5 (by decide)) (f42n (Or.inl ⟨by omega, c5⟩))
          · refine br_f (nI_ge (a := 5) (by omega) hj) (f31 ?_)
            by_cases c20 : j = 20
            · exact Or.inl c20
            · refine Or.inr ?_
              rintro (z | z) <;> omega
      · exact br_f (nI_ge (a := 26) (by omega) hj) (h0 (to_no hj c27))
end
section
variable {f_drafted f_length f_place f_there f_chains f_functions f_generators f_active f_begins f_token f_chain f_how f_sort : Int32} {f_value : Int64} {f_steps f_endSort f_status : Int32} {f_endNumber : Int64} {f_over f_noted : Int32} {a_draftKind a_draftWith a_kind a_with a_above a_as a_part a_open a_means a_own a_yields a_binder a_outer a_holdsSort : Nat → Int32} {a_holds : Nat → Int64} {a_fnToken a_fnChain a_state a_gBody a_gChain a_gYield a_closing a_rowOf a_many a_wToken a_wOperand a_wChain a_wSort a_wHow : Nat → Int32} {a_wValue : Nat → Int64} {a_noteSort : Nat → Int32} {a_noteNumber : Nat → Int64}
theorem to_Y {post : Int32 → SY → Prop} {nt : Nat} (hnt : nt ≤ 48) (e : f_drafted = nI nt) {v1 v2 : Int32}
    (h1 : to_ok nt v1 v2 → post 1 (nI (nt + 1), f_length, f_place, f_there, f_chains, f_functions, f_generators, f_active, f_begins, f_token, f_chain, f_how, f_sort, f_value, f_steps, f_endSort, f_status, f_endNumber, f_over, f_noted, upd a_draftKind nt v1, upd a_draftWith nt v2, a_kind, a_with, a_above, a_as, a_part, a_open, a_means, a_own, a_yields, a_binder, a_outer, a_holdsSort, a_holds, a_fnToken, a_fnChain, a_state, a_gBody, a_gChain, a_gYield, a_closing, a_rowOf, a_many, a_wToken, a_wOperand, a_wChain, a_wSort, a_wHow, a_wValue, a_noteSort, a_noteNumber)) (h0 : ¬ to_ok nt v1 v2 → post 0 (nI nt, f_length, f_place, f_there, f_chains, f_functions, f_generators, f_active, f_begins, f_token, f_chain, f_how, f_sort, f_value, f_steps, f_endSort, f_status, f_endNumber, f_over, f_noted, a_draftKind, a_draftWith, a_kind, a_with, a_above, a_as, a_part, a_open, a_means, a_own, a_yields, a_binder, a_outer, a_holdsSort, a_holds, a_fnToken, a_fnChain, a_state, a_gBody, a_gChain, a_gYield, a_closing, a_rowOf, a_many, a_wToken, a_wOperand, a_wChain, a_wSort, a_wHow, a_wValue, a_noteSort, a_noteNumber)) : wpY_token post (f_drafted, f_length, f_place, f_there, f_chains, f_functions, f_generators, f_active, f_begins, f_token, f_chain, f_how, f_sort, f_value, f_steps, f_endSort, f_status, f_endNumber, f_over, f_noted, a_draftKind, a_draftWith, a_kind, a_with, a_above, a_as, a_part, a_open, a_means, a_own, a_yields, a_binder, a_outer, a_holdsSort, a_holds, a_fnToken, a_fnChain, a_state, a_gBody, a_gChain, a_gYield, a_closing, a_rowOf, a_many, a_wToken, a_wOperand, a_wChain, a_wSort, a_wHow, a_wValue, a_noteSort, a_noteNumber) v1 v2 := by
  subst e
  unfold wpY_token
  refine il_in (n := 27) (by decide) (fun z => br_t rfl (h0 ?_)) (fun j c27 e1 => br_f (by decide) ?_)
  · rintro ⟨_, i, hi, e, _⟩
    exact z i hi e
  · subst e1
    have f25 : (to_nm j → ∃ i, i < 6 ∧ v2 = nI i) → wY_token_25 post (nI j) v2 (nI nt) f_length f_place f_there f_chains f_functions f_generators f_active f_begins f_token f_chain f_how f_sort f_value f_steps f_endSort f_status f_endNumber f_over f_noted a_draftKind a_draftWith a_kind a_with a_above a_as a_part a_open a_means a_own a_yields a_binder a_outer a_holdsSort a_holds a_fnToken a_fnChain a_state a_gBody a_gChain a_gYield a_closing a_rowOf a_many a_wToken a_wOperand a_wChain a_wSort a_wHow a_wValue a_noteSort a_noteNumber := by
      intro hn
      by_cases c48 : nt = 48
      · subst c48
        exact br_t rfl (h0 (fun z => by have := z.1; omega))
      · have et : (nI nt).toNatClampNeg = nt := nI_clamp (by omega)
        have it : vp_in (nI nt) 48 := vp_in_nI (by omega) (by decide)
        refine br_f ?_ ⟨it, nm_r (by rw [et]) ⟨it, nm_r (by rw [et]) (nm_r (nI_1 nt) (h1 ⟨by omega, j, c27, rfl, hn⟩))⟩⟩
        show ¬ nI nt = nI 48
        rw [nI_eq (by omega) (by decide)]
        exact c48
    have nmd : to_nm j → ∀ post' : Int32 → Prop, post' 1 → wpY_isName post' (nI j) := by
      intro hn post' hp
      rcases hn with hn | hn
      · exact br_f (nI_nlt (b := 2) (by omega) (by omega)) (br_t (nI_le (b := 5) hn.2 (by decide)) hp)
      · subst hn
        exact br_f (by decide) (br_f (by decide) (br_t rfl hp))
    have nnm : ¬ to_nm j → ∀ post' : Int32 → Prop, post' 0 → wpY_isName post' (nI j) := by
      intro hn post' hp
      have n20 : ¬ nI j = 20 := by
        show ¬ nI j = nI 20
        rw [nI_eq (by omega) (by decide)]
        exact fun z => hn (Or.inr z)
      by_cases c2 : j < 2
      · exact br_t (nI_lt (b := 2) c2 (by decide)) (br_f n20 hp)
      · refine br_f (nI_nlt (b := 2) (by omega) (by omega)) (br_f (nI_ge (a := 5) ?_ (by omega)) (br_f n20 hp))
        by_cases c5 : j ≤ 5
        · exact absurd (Or.inl ⟨by omega, c5⟩) hn
        · omega
    by_cases hn : to_nm j
    · refine nmd hn _ (br_f (by decide) (il_in (n := 6) (by decide) (fun z => br_t rfl (h0 ?_)) (fun i hi e2 => br_f (by decide) (f25 (fun _ => ⟨i, hi, e2⟩)))))
      exact to_no2 c27 hn z
    · exact nnm hn _ (br_t rfl (f25 (fun z => absurd z hn)))
end
theorem i_vc_token {k : Nat} {u : SX} {v : SY} (I : i_Rel k u v) (hk : k + 3 ≤ 1536) (v1 : Int32) (v2 : Int32) : wpX_token (fun r u' => wpY_token (fun r' v' => r' = r ∧ i_Rel (k + 3) u' v') v v1 v2) u v1 v2 := by
  obtain ⟨f_tokenCount, f_scriptSize, f_saidPlace, f_activationCount, f_variableCount, f_functionCount, f_generatorCount, f_ending, f_valueSort, f_valueNumber, f_noteCount, f_stepCount, f_latestRun, a_tokenKinds, a_tokenOperands, a_kinds, a_operands, a_parents, a_behind, a_ownFns, a_meanings, a_generatorFns, a_frameTokens, a_frameStages, a_frameScopes, a_keptEndings, a_keptSorts, a_keptNumbers, a_frameCounts, a_activeSlots, a_variableBinders, a_variableOuters, a_variableSorts, a_variableNumbers, a_functionTokens, a_functionScopes, a_generatorStates, a_noteSorts, a_noteNumbers⟩ := u
  obtain ⟨f_drafted, f_length, f_place, f_there, f_chains, f_functions, f_generators, f_active, f_begins, f_token, f_chain, f_how, f_sort, f_value, f_steps, f_endSort, f_status, f_endNumber, f_over, f_noted, a_draftKind, a_draftWith, a_kind, a_with, a_above, a_as, a_part, a_open, a_means, a_own, a_yields, a_binder, a_outer, a_holdsSort, a_holds, a_fnToken, a_fnChain, a_state, a_gBody, a_gChain, a_gYield, a_closing, a_rowOf, a_many, a_wToken, a_wOperand, a_wChain, a_wSort, a_wHow, a_wValue, a_noteSort, a_noteNumber⟩ := v
  have I0 : il_R (f_tokenCount, f_scriptSize, f_saidPlace, f_activationCount, f_variableCount, f_functionCount, f_generatorCount, f_ending, f_valueSort, f_valueNumber, f_noteCount, f_stepCount, f_latestRun, a_tokenKinds, a_tokenOperands, a_kinds, a_operands, a_parents, a_behind, a_ownFns, a_meanings, a_generatorFns, a_frameTokens, a_frameStages, a_frameScopes, a_keptEndings, a_keptSorts, a_keptNumbers, a_frameCounts, a_activeSlots, a_variableBinders, a_variableOuters, a_variableSorts, a_variableNumbers, a_functionTokens, a_functionScopes, a_generatorStates, a_noteSorts, a_noteNumbers) (f_drafted, f_length, f_place, f_there, f_chains, f_functions, f_generators, f_active, f_begins, f_token, f_chain, f_how, f_sort, f_value, f_steps, f_endSort, f_status, f_endNumber, f_over, f_noted, a_draftKind, a_draftWith, a_kind, a_with, a_above, a_as, a_part, a_open, a_means, a_own, a_yields, a_binder, a_outer, a_holdsSort, a_holds, a_fnToken, a_fnChain, a_state, a_gBody, a_gChain, a_gYield, a_closing, a_rowOf, a_many, a_wToken, a_wOperand, a_wChain, a_wSort, a_wHow, a_wValue, a_noteSort, a_noteNumber) := I
  obtain ⟨⟨nt, hnt, rfl, rfl, hkd⟩, rfl, rfl, rfl, hT, ⟨rfl, rfl, rfl, rfl, rfl, rfl⟩, ⟨rfl, rfl, rfl, rfl⟩, ⟨gc, hgc, rfl, rfl, hG⟩, hE⟩ := I
  refine to_X hnt rfl (fun ok => ?_) (fun no => ?_)
  · refine to_Y hnt rfl (fun _ => ⟨rfl, ?_⟩) (fun z => absurd ok z)
    refine ⟨⟨nt + 1, by have := ok.1; omega, rfl, rfl, ?_⟩, rfl, rfl, rfl, hT, ⟨rfl, rfl, rfl, rfl, rfl, rfl⟩, ⟨rfl, rfl, rfl, rfl⟩, ⟨gc, hgc, rfl, rfl, hG⟩, hE⟩
    intro i hi
    by_cases z : i = nt
    · subst z
      obtain ⟨_, j, hj, e, _⟩ := ok
      exact ⟨j, hj, by rw [pk_us]; exact e⟩
    · obtain ⟨j, hj, e⟩ := hkd i (by omega)
      exact ⟨j, hj, by rw [pk_un z]; exact e⟩
  · exact to_Y hnt rfl (fun z => absurd z no) (fun _ => ⟨rfl, I0⟩)
end
section
def rn_S : Nat → List gf_T := gk_su (fun _ => []) 0 [(0, 0, -1, 0, 0, 0)]
theorem rn_s : 0 + 0 + 0 + gk_sm gk_yl rn_S 16 ≤ 0 := by decide
theorem rn_I {w : gw_T} (hw : gw_S w) (hn : 0 < gw_n w) (B O VS : Nat → Int32) (VN : Nat → Int64) (FT FS st cl gy : Nat → Int32) : gk_I w (true, 0, 0, 0) rn_S [0] (B, O, VS, VN, 0) (FT, FS, 0) (st, cl, gy, 0) 0 0 := by
  refine ⟨?_, ⟨⟨Or.inl rfl, trivial⟩, by show 1 ≤ 8; decide⟩, fun g hg => absurd hg (Nat.not_lt_zero _), ⟨fun i hi => absurd hi (Nat.not_lt_zero _), fun i hi => absurd hi (Nat.not_lt_zero _)⟩, ⟨rn_s, by decide, by show (0 : Nat) ≤ 8; decide⟩, ?_, fun z => nomatch z⟩
  · intro s h16 hl
    have hs : s = 0 := by
      rcases hl with h | h
      · rcases List.mem_cons.mp h with h | h
        · exact h
        · cases h
      · have h2 : s < 8 + 0 := h.2
        omega
    subst hs
    refine ⟨0, Or.inl ⟨rfl, rfl⟩, ?_⟩
    show gk_SL w _ _ _ 0 _ [(0, 0, -1, 0, 0, 0)]
    refine gk_SL1 hn rfl ?_
    rw [hw.2.2.2.2.2.1.1]
    exact rfl
  · intro a A' e
    cases e
    exact ⟨fun s hs => (by cases hs), fun _ => ⟨_, _, rfl, rfl⟩, fun z => (by cases z)⟩
theorem rn_mu : gk_mu (true, 0, 0, 0) rn_S [0] 0 ≤ 2401 := by decide
theorem rn_G {w : gw_T} (hw : gw_S w) {M : gm_T} {S : Nat → List gf_T} {A : List Nat} {V : gv_T} {F : gp_T} {G : gg_T} {nc sp : Nat} (I : gk_I w M S A V F G nc sp) {ft fs fc ke ks : Nat → Int32} {kn : Nat → Int64} {cn gs : Nat → Int32}
    (hC : xr_C (gw_K w) (xr_Z ft fs fc ke ks kn) cn (gk_lv A G.2.2.2) S) (hg : ∀ g, g < G.2.2.2 → gs g = xr_g (G.1 g) (G.2.1 g)) : il_G G.2.2.2 gs ft cn G.1 G.2.1 G.2.2.1 := by
  intro g hgc
  have gn := I.2.2.1 g hgc
  have h8 := I.2.2.2.2.1.2.2
  refine ⟨gn.1, hg g hgc, fun z => ?_⟩
  obtain ⟨_, f, L, e1, e2, _, e3⟩ := gn.2.2.2.2 z
  have hlv : gk_lv A G.2.2.2 (8 + g) := Or.inr ⟨by omega, by omega⟩
  have hl := xo_len hw I (8 + g) (by omega) hlv
  have hc := hC (8 + g) (by omega) hlv
  rw [e1] at hl hc
  have hl2 : L.length + 1 ≤ 48 := hl
  refine ⟨L.length, by omega, hc.1, ?_⟩
  rw [e3]
  exact hc.2.1.1
theorem rn_20 : ¬ (2 : Int32) = 0 := by decide
theorem rn_21 : ¬ (2 : Int32) = 1 := by decide
theorem rn_0 {s : Nat} (hl : gk_lv [0] 0 s) : s = 0 := by
  rcases hl with h | h
  · rcases List.mem_cons.mp h with h | h
    · exact h
    · cases h
  · have h2 : s < 8 + 0 := h.2
    omega
theorem rn_E {h s vs : Int32} {x vn : Int64} {F : gp_T} {gc : Nat} (hfc : F.2.2 ≤ 600) (hvv : gk_VV F.2.2 gc s x) (hvs : vs = s ∧ vn = x) :
    ((if h = 1 then (1 : Int32) else 0) = 0 ∨ (if h = 1 then (1 : Int32) else 0) = 1) ∧ vs = s ∧ (vs = 3 → ∃ i, i < 600 ∧ vn = lN i ∧ (F.1 i).toInt64 = gk_sh F s x) ∧ (¬ vs = 3 → vn = gk_sh F s x) := by
  obtain ⟨rfl, rfl⟩ := hvs
  refine ⟨by split; exact Or.inr rfl; exact Or.inl rfl, rfl, ?_, ?_⟩
  · intro z
    rcases hvv with c | ⟨_, i, hi, e⟩ | ⟨c, _⟩
    · rw [z] at c; exact absurd c (by decide)
    · refine ⟨i, by omega, e, ?_⟩
      rw [gk_sh, if_pos z, e, lN_i, nI_clamp (by omega)]
    · rw [z] at c; exact absurd c (by decide)
  · intro z
    rw [gk_sh, if_neg z]
theorem i_vc_run {k : Nat} {u : SX} {v : SY} (I : i_Rel k u v) (hk : k + 3 ≤ 1536) (v1 : Int32) : wpX_run (fun r u' => wpY_run (fun r' v' => r' = r ∧ i_Rel (k + 3) u' v') v v1) u v1 := by
  obtain ⟨f_tokenCount, f_scriptSize, f_saidPlace, f_activationCount, f_variableCount, f_functionCount, f_generatorCount, f_ending, f_valueSort, f_valueNumber, f_noteCount, f_stepCount, f_latestRun, a_tokenKinds, a_tokenOperands, a_kinds, a_operands, a_parents, a_behind, a_ownFns, a_meanings, a_generatorFns, a_frameTokens, a_frameStages, a_frameScopes, a_keptEndings, a_keptSorts, a_keptNumbers, a_frameCounts, a_activeSlots, a_variableBinders, a_variableOuters, a_variableSorts, a_variableNumbers, a_functionTokens, a_functionScopes, a_generatorStates, a_noteSorts, a_noteNumbers⟩ := u
  obtain ⟨f_drafted, f_length, f_place, f_there, f_chains, f_functions, f_generators, f_active, f_begins, f_token, f_chain, f_how, f_sort, f_value, f_steps, f_endSort, f_status, f_endNumber, f_over, f_noted, a_draftKind, a_draftWith, a_kind, a_with, a_above, a_as, a_part, a_open, a_means, a_own, a_yields, a_binder, a_outer, a_holdsSort, a_holds, a_fnToken, a_fnChain, a_state, a_gBody, a_gChain, a_gYield, a_closing, a_rowOf, a_many, a_wToken, a_wOperand, a_wChain, a_wSort, a_wHow, a_wValue, a_noteSort, a_noteNumber⟩ := v
  have I0 : il_R (f_tokenCount, f_scriptSize, f_saidPlace, f_activationCount, f_variableCount, f_functionCount, f_generatorCount, f_ending, f_valueSort, f_valueNumber, f_noteCount, f_stepCount, f_latestRun, a_tokenKinds, a_tokenOperands, a_kinds, a_operands, a_parents, a_behind, a_ownFns, a_meanings, a_generatorFns, a_frameTokens, a_frameStages, a_frameScopes, a_keptEndings, a_keptSorts, a_keptNumbers, a_frameCounts, a_activeSlots, a_variableBinders, a_variableOuters, a_variableSorts, a_variableNumbers, a_functionTokens, a_functionScopes, a_generatorStates, a_noteSorts, a_noteNumbers) (f_drafted, f_length, f_place, f_there, f_chains, f_functions, f_generators, f_active, f_begins, f_token, f_chain, f_how, f_sort, f_value, f_steps, f_endSort, f_status, f_endNumber, f_over, f_noted, a_draftKind, a_draftWith, a_kind, a_with, a_above, a_as, a_part, a_open, a_means, a_own, a_yields, a_binder, a_outer, a_holdsSort, a_holds, a_fnToken, a_fnChain, a_state, a_gBody, a_gChain, a_gYield, a_closing, a_rowOf, a_many, a_wToken, a_wOperand, a_wChain, a_wSort, a_wHow, a_wValue, a_noteSort, a_noteNumber) := I
  obtain ⟨⟨nt, hnt, rfl, rfl, hkd⟩, rfl, rfl, rfl, hT, ⟨rfl, rfl, rfl, rfl, rfl, rfl⟩, ⟨rfl, rfl, rfl, rfl⟩, ⟨gc, hgc, rfl, rfl, hG⟩, hE⟩ := I
  rcases hT with ⟨rfl, rfl⟩ | ⟨n, hn0, hn48, rfl, rfl, rfl, w, hw, hw2, hwn, rfl, rfl, rfl, rfl, hbx, hfx, hky, hpy, hfy, hay0, hay⟩
  · exact br_t rfl (br_t rfl ⟨rfl, I0⟩)
  · have n0 : ¬ nI n = 0 := nI_ne0 hn0 (by omega)
    by_cases c1 : v1 < 1
    · exact br_f n0 (br_t c1 (br_f (by decide) (br_t c1 ⟨rfl, I0⟩)))
    by_cases c6 : v1 ≤ 600
    · obtain ⟨most, hm6, rfl⟩ := nI_of2 (M := 600) (n := 600) (by decide) (fun z => c1 (Int32.lt_trans z (by decide))) c6
      refine br_f n0 (br_f c1 (br_t c6 ?_))
      unfold wpX_forgetRun
      refine xm_start (d := 0) rfl (by decide) ?_
      refine ⟨2402, ?_⟩
      have hx : xq_S w (nI nt, nI n, f_place, (-1 : Int32), a_draftKind, a_draftWith, a_parents, a_behind, a_ownFns) := fun i hi => hbx i (by rw [← hwn]; exact hi)
      have hy : yq_S w (nI nt, nI n, f_place, (1 : Int32), a_draftKind, a_draftWith, a_kind, a_with, a_above, a_as, a_part, a_open, a_means, a_own, a_yields) :=
        ⟨fun i hi => hky i (by rw [← hwn]; exact hi), fun i j hi hj => hpy i j (by rw [← hwn]; exact hi) hj⟩
      refine ru_main (E := (-1, f_status, 0, 0)) hw hx hy hm6 rfl (fun u' v' => i_Rel (k + 3) u' v') (fun postY => wpY_run postY (nI nt, nI n, f_place, 1, f_chains, f_functions, nI gc, f_active, f_begins, f_token, f_chain, f_how, f_sort, f_value, f_steps, f_endSort, f_status, f_endNumber, f_over, f_noted, a_draftKind, a_draftWith, a_kind, a_with, a_above, a_as, a_part, a_open, a_means, a_own, a_yields, a_binder, a_outer, a_holdsSort, a_holds, a_fnToken, a_fnChain, a_state, a_gBody, a_gChain, a_gYield, a_closing, a_rowOf, a_many, a_wToken, a_wOperand, a_wChain, a_wSort, a_wHow, a_wValue, a_noteSort, a_noteNumber) (nI most)) ?_ ?_
        2401 (true, 0, 0, 0) rn_S [0] (a_binder, a_outer, a_holdsSort, a_holds, 0) (a_fnToken, a_fnChain, 0) (a_state, a_closing, a_gYield, 0) (a_noteSort, a_noteNumber, 0) 0 (rn_I hw (by rw [hwn]; exact hn0) _ _ _ _ _ _ _ _ _) rn_mu (Nat.zero_le _) (List.cons_ne_nil _ _) ?_ (nI nt, nI n, f_place, nI (0 + 1), 0, 0, 0, f_ending, f_valueSort, f_valueNumber, 0, 0, -1, a_draftKind, a_draftWith, gw_K w, gw_v w, a_parents, a_behind, a_ownFns, gw_mn w, gw_gn w, upd a_frameTokens (48 * 0) 0, upd a_frameStages (48 * 0) 0, upd a_frameScopes (48 * 0) (-1), a_keptEndings, a_keptSorts, a_keptNumbers, upd a_frameCounts 0 1, upd a_activeSlots 0 (nI 0), a_binder, a_outer, a_holdsSort, a_holds, a_fnToken, a_fnChain, a_generatorStates, a_noteSort, a_noteNumber) 2402 0 ?_ (by decide) (by decide)
      · intro M S A V F G N sp u v J hX hY
        obtain ⟨en, vs, vn, ft, fs, fc, ke, ks, kn, cn, ac, gs, rfl, hP⟩ := hX
        obtain ⟨bg, tk, ch, hw', so, va, gb, gh, ro, mn, wt, wo, wc, wh, ws, wv, rfl, hQ⟩ := hY
        exact ⟨⟨nt, hnt, rfl, rfl, hkd⟩, rfl, rfl, rfl, Or.inr ⟨n, hn0, hn48, rfl, rfl, rfl, w, hw, hw2, hwn, rfl, rfl, rfl, rfl, hbx, hfx, hky, hpy, hfy, hay0, hay⟩, ⟨rfl, rfl, rfl, rfl, rfl, rfl⟩, ⟨rfl, rfl, rfl, rfl⟩, ⟨G.2.2.2, J.2.2.2.2.1.2.2, rfl, rfl, rn_G hw J hP.2.2.1 hP.2.2.2⟩, Or.inl ⟨⟨rn_20, rn_21⟩, rfl, rfl⟩⟩
      · intro h s x S V F G N sp u v J hX hY
        obtain ⟨en, vs, vn, ft, fs, fc, ke, ks, kn, cn, ac, gs, rfl, hP⟩ := hX
        obtain ⟨bg, tk, ch, hw', so, va, gb, gh, ro, mn, wt, wo, wc, wh, ws, wv, rfl, hQ⟩ := hY
        obtain ⟨_, h01, hvv⟩ := J.2.2.2.2.2.2 rfl
        have hvs := (hP.1 rfl).2 (by rcases h01 with z | z; exact Or.inl z; exact Or.inr (Or.inl z))
        have hfc : F.2.2 ≤ 600 := by have := J.2.2.2.2.1; omega
        refine ⟨⟨nt, hnt, rfl, rfl, hkd⟩, rfl, rfl, rfl, Or.inr ⟨n, hn0, hn48, rfl, rfl, rfl, w, hw, hw2, hwn, rfl, rfl, rfl, rfl, hbx, hfx, hky, hpy, hfy, hay0, hay⟩, ⟨rfl, rfl, rfl, rfl, rfl, rfl⟩, ⟨rfl, rfl, rfl, rfl⟩, ⟨G.2.2.2, J.2.2.2.2.1.2.2, rfl, rfl, rn_G hw J hP.2.2.1 hP.2.2.2⟩, Or.inr ?_⟩
        exact rn_E hfc hvv hvs
      · intro postY hpY
        refine br_f (by decide) (br_f c1 (br_t c6 ?_))
        unfold wpY_forget
        refine ym_enterD (d := 0) (r := 8) rfl (by decide) (by decide) (by decide) rfl ?_
        refine ⟨2403, hpY (nI nt, nI n, f_place, 1, 0, 0, 0, nI (0 + 1), 1, 0, -1, f_how, f_sort, f_value, 0, -1, f_status, 0, 0, 0, a_draftKind, a_draftWith, a_kind, a_with, a_above, a_as, a_part, a_open, a_means, a_own, a_yields, a_binder, a_outer, a_holdsSort, a_holds, a_fnToken, a_fnChain, a_state, a_gBody, a_gChain, a_gYield, a_closing, upd a_rowOf 0 (nI 8), upd a_many 8 0, a_wToken, a_wOperand, a_wChain, a_wSort, a_wHow, a_wValue, a_noteSort, a_noteNumber) ?_ 2403 (by decide)⟩
        refine ⟨1, 0, -1, f_how, f_sort, f_value, a_gBody, a_gChain, _, _, a_wToken, a_wOperand, a_wChain, a_wHow, a_wSort, a_wValue, rfl, ⟨fun _ => ⟨rfl, ?_⟩, fun z => (by cases z)⟩, ⟨pk_us, trivial⟩, ?_, fun g hg => absurd hg (Nat.not_lt_zero _)⟩
        · intro a A' f L e1 e2
          cases e1
          cases e2
          exact ⟨rfl, rfl⟩
        · intro s h16 hl
          have hs := rn_0 hl
          subst hs
          exact ⟨pk_us, gk_0y, trivial⟩
      · refine ⟨f_ending, f_valueSort, f_valueNumber, _, _, _, a_keptEndings, a_keptSorts, a_keptNumbers, _, _, a_generatorStates, rfl, fun z => (by cases z), ⟨pk_us, trivial⟩, ?_, fun g hg => absurd hg (Nat.not_lt_zero _)⟩
        exact xr_lay (b := 0) (t := 0) (P := fun _ => False) (S := fun _ => []) (cn := a_frameCounts) (fun s hs hp => hp.elim) (fun s hs hp => hp.elim) (fun s hs hne => absurd (rn_0 hs) hne)
    · exact br_f n0 (br_f c1 (br_f c6 (br_f (by decide) (br_f c1 (br_f c6 ⟨rfl, I0⟩)))))
end
section
def cm_fb (O : Nat → Int32) (nm : Int32) : List Nat → Int32
  | [] => -1
  | b :: l => if O b = nm then nI b else cm_fb O nm l
theorem cm_fb1 (O : Nat → Int32) (nm : Int32) : ∀ l, cm_fb O nm l = -1 ∨ ∃ b, b ∈ l ∧ cm_fb O nm l = nI b := by
  intro l
  induction l with
  | nil => exact Or.inl rfl
  | cons b l ih =>
    show (if O b = nm then nI b else cm_fb O nm l) = -1 ∨ ∃ b', b' ∈ b :: l ∧ (if O b = nm then nI b else cm_fb O nm l) = nI b'
    split
    · exact Or.inr ⟨b, List.mem_cons_self .., rfl⟩
    · rcases ih with h | ⟨b', h, e⟩
      · exact Or.inl h
      · exact Or.inr ⟨b', List.mem_cons_of_mem _ h, e⟩
def cm_m (K O : Nat → Int32) (e : Nat → Nat) (i : Nat) : Int32 := if K i = 2 ∨ K i = 3 then cm_fb O (O i) (gs_sc K e i) else -1
def cm_g (K w : Nat → Int32) (g : Nat → Int32) : Nat → (Nat → Int32)
  | 0 => g
  | i + 1 => if K i = 22 ∧ ¬ w i < 0 then upd (upd (cm_g K w g i) i 0) (w i).toNatClampNeg 1 else upd (cm_g K w g i) i 0
def cm_W (K w : Nat → Int32) (n : Nat) : Prop := ∀ i, i < n → w i = -1 ∨ ∃ f, f < i ∧ w i = nI f ∧ K f = 5
theorem cm_ng {n : Nat} (h : n < 2 ^ 31) : ¬ (nI n : Int32) < 0 := nI_pos h
theorem cm_g01 {K w g : Nat → Int32} {n : Nat} (hn : n ≤ 48) (hW : cm_W K w n) : ∀ i, i ≤ n → ∀ j, j < i → (cm_g K w g i j = 0 ∨ cm_g K w g i j = 1) ∧ (cm_g K w g i j = 1 → K j = 5) := by
  intro i
  induction i with
  | zero => intro _ j hj; omega
  | succ i ih =>
    intro hi j hj
    have base : (upd (cm_g K w g i) i 0 j = 0 ∨ upd (cm_g K w g i) i 0 j = 1) ∧ (upd (cm_g K w g i) i 0 j = 1 → K j = 5) := by
      by_cases z : j = i
      · subst z
        rw [pk_us]
        exact ⟨Or.inl rfl, fun c => absurd c (by decide)⟩
      · rw [pk_un z]
        exact ih (by omega) j (by omega)
    rw [show cm_g K w g (i + 1) = (if K i = 22 ∧ ¬ w i < 0 then upd (upd (cm_g K w g i) i 0) (w i).toNatClampNeg 1 else upd (cm_g K w g i) i 0) from rfl]
    split
    · rename_i c
      rcases hW i (by omega) with e | ⟨f, hf, e, k5⟩
      · rw [e] at c
        exact absurd c.2 (by decide)
      · rw [e, nI_clamp (by omega)]
        by_cases z : j = f
        · subst z
          rw [pk_us]
          exact ⟨Or.inr rfl, fun _ => k5⟩
        · rw [pk_un z]
          exact base
    · exact base
theorem cm_gk {K w g : Nat → Int32} {n : Nat} (hn : n ≤ 48) (hW : cm_W K w n) {f : Nat} : ∀ d i, f < i → i + d ≤ n → cm_g K w g i f = 1 → cm_g K w g (i + d) f = 1 := by
  intro d
  induction d with
  | zero => intro i _ _ h; exact h
  | succ d ih =>
    intro i hf hi h
    have h1 := ih i hf (by omega) h
    show (if K (i + d) = 22 ∧ ¬ w (i + d) < 0 then upd (upd (cm_g K w g (i + d)) (i + d) 0) (w (i + d)).toNatClampNeg 1 else upd (cm_g K w g (i + d)) (i + d) 0) f = 1
    split
    · by_cases z : f = (w (i + d)).toNatClampNeg
      · rw [← z, pk_us]
      · rw [pk_un z, pk_un (by omega)]
        exact h1
    · rw [pk_un (by omega)]
      exact h1
theorem cm_gy {K w g : Nat → Int32} {n i f : Nat} (hn : n ≤ 48) (hW : cm_W K w n) (hi : i < n) (hk : K i = 22) (hf : w i = nI f) (hfi : f < i) : cm_g K w g n f = 1 := by
  have h : cm_g K w g (i + 1) f = 1 := by
    show (if K i = 22 ∧ ¬ w i < 0 then upd (upd (cm_g K w g i) i 0) (w i).toNatClampNeg 1 else upd (cm_g K w g i) i 0) f = 1
    rw [if_pos ⟨hk, by rw [hf]; exact nI_pos (by omega)⟩, hf, nI_clamp (by omega), pk_us]
  have h2 := cm_gk (g := g) hn hW (f := f) (n - (i + 1)) (i + 1) (by omega) (by omega) h
  rw [show i + 1 + (n - (i + 1)) = n by omega] at h2
  exact h2
theorem cm_ge {K w g g' : Nat → Int32} : ∀ i j, j < i → cm_g K w g i j = cm_g K w g' i j := by
  intro i
  induction i with
  | zero => intro j hj; omega
  | succ i ih =>
    intro j hj
    have base : upd (cm_g K w g i) i 0 j = upd (cm_g K w g' i) i 0 j := by
      by_cases z : j = i
      · subst z
        rw [pk_us, pk_us]
      · rw [pk_un z, pk_un z]
        exact ih j (by omega)
    show (if K i = 22 ∧ ¬ w i < 0 then upd (upd (cm_g K w g i) i 0) (w i).toNatClampNeg 1 else upd (cm_g K w g i) i 0) j = (if K i = 22 ∧ ¬ w i < 0 then upd (upd (cm_g K w g' i) i 0) (w i).toNatClampNeg 1 else upd (cm_g K w g' i) i 0) j
    split
    · by_cases z : j = (w i).toNatClampNeg
      · rw [← z, pk_us, pk_us]
      · rw [pk_un z, pk_un z]
        exact base
    · exact base
theorem cm_gc {K K' w w' g : Nat → Int32} : ∀ i, (∀ j, j < i → K j = K' j ∧ w j = w' j) → cm_g K w g i = cm_g K' w' g i := by
  intro i
  induction i with
  | zero => intro _; rfl
  | succ i ih =>
    intro h
    show (if K i = 22 ∧ ¬ w i < 0 then upd (upd (cm_g K w g i) i 0) (w i).toNatClampNeg 1 else upd (cm_g K w g i) i 0) = (if K' i = 22 ∧ ¬ w' i < 0 then upd (upd (cm_g K' w' g i) i 0) (w' i).toNatClampNeg 1 else upd (cm_g K' w' g i) i 0)
    rw [ih (fun j hj => h j (by omega)), (h i (by omega)).1, (h i (by omega)).2]
theorem cm_ow {n : Nat} {K : Nat → Int32} {e : Nat → Nat} (h : tr_T (gs_o n K) e) (h0 : e 0 = n) : cm_W K (gs_ow K e) n := by
  intro i
  induction i using Nat.strongRecOn with
  | ind i ih =>
    intro hi
    by_cases z : i = 0
    · subst z
      exact Or.inl rfl
    · have hp := tr_pk (k := i) h (gs_o3 n K) (by omega) (by omega)
      rw [gs_owp (k := i) h (gs_o3 n K) (by omega) (by omega)]
      split
      · rename_i c
        exact Or.inr ⟨_, hp.1, rfl, c⟩
      · rcases ih _ hp.1 (by omega) with c | ⟨f, hf, e1, e2⟩
        · exact Or.inl c
        · exact Or.inr ⟨f, by omega, e1, e2⟩
def cm_pl (e0 nt : Nat) : Int32 := if e0 = nt then -1 else if e0 < nt then nI e0 else nI nt
theorem cm_pl0 {e0 nt : Nat} (h : e0 = nt) : cm_pl e0 nt = -1 := if_pos h
theorem cm_pl1 {e0 nt : Nat} (h : e0 < nt) : cm_pl e0 nt = nI e0 := by unfold cm_pl; rw [if_neg (by omega), if_pos h]
theorem cm_pl2 {e0 nt : Nat} (h : nt < e0) : cm_pl e0 nt = nI nt := by unfold cm_pl; rw [if_neg (by omega), if_neg (by omega)]
theorem cm_bd {n : Nat} {K : Nat → Int32} {e : Nat → Nat} (h : tr_T (gs_o n K) e) {k : Nat} (hk0 : 0 < k) (hk : k < e 0) (hn : e 0 = n) :
    (gw_bd (K (tr_pa e k)) (tr_ix e k) ↔ (K (tr_pa e k) = 5 ∨ (K (tr_pa e k) = 4 ∨ K (tr_pa e k) = 20) ∧ k ≠ tr_pa e k + 1)) ∧
    (K (tr_pa e k) = 14 → (tr_ix e k = 1 ↔ k ≠ tr_pa e k + 1)) := by
  have hp := tr_pk h (gs_o3 n K) hk0 hk
  have ho := gs_oi n K (tr_pa e k) (by omega)
  have key : gw_op (K (tr_pa e k)) = 2 → (tr_ix e k = 1 ↔ k ≠ tr_pa e k + 1) := by
    intro o2
    rw [o2] at ho
    have h1 := hp.2.1
    rw [ho] at h1
    constructor
    · intro z y
      have h3 := hp.2.2
      rw [z] at h3
      have h4 := tr_cgt h (tr_pa e k) 0
      have h5 : tr_c e (tr_pa e k) 0 < tr_c e (tr_pa e k) 1 := tr_cs h _ 0
      have h6 : tr_c e (tr_pa e k) 0 = tr_pa e k + 1 := rfl
      omega
    · intro z
      have h2 : tr_ix e k = 0 ∨ tr_ix e k = 1 := by omega
      rcases h2 with y | y
      · have h3 := hp.2.2
        rw [y] at h3
        have h6 : tr_c e (tr_pa e k) 0 = tr_pa e k + 1 := rfl
        omega
      · exact y
  refine ⟨?_, fun z => key (by rw [z]; decide)⟩
  constructor
  · rintro (z | ⟨z, y⟩)
    · exact Or.inl z
    · exact Or.inr ⟨z, (key (by rcases z with z | z <;> (rw [z]; decide))).mp y⟩
  · rintro (z | ⟨z, y⟩)
    · exact Or.inl z
    · exact Or.inr ⟨z, (key (by rcases z with z | z <;> (rw [z]; decide))).mpr y⟩
end
section
section
variable {f_tokenCount f_scriptSize f_saidPlace f_activationCount f_variableCount f_functionCount f_generatorCount f_ending f_valueSort : Int32} {f_valueNumber : Int64} {f_noteCount f_stepCount f_latestRun : Int32} {a_tokenKinds a_tokenOperands a_kinds a_operands a_parents a_behind a_ownFns a_meanings a_generatorFns a_frameTokens a_frameStages a_frameScopes a_keptEndings a_keptSorts : Nat → Int32} {a_keptNumbers : Nat → Int64} {a_frameCounts a_activeSlots a_variableBinders a_variableOuters a_variableSorts : Nat → Int32} {a_variableNumbers : Nat → Int64} {a_functionTokens a_functionScopes a_generatorStates a_noteSorts : Nat → Int32} {a_noteNumbers : Nat → Int64}
theorem cx_bad {post : Int32 → Prop} {nt : Nat} {e : Nat → Nat} (hnt : nt ≤ 48) (et : f_tokenCount = nI nt) (hkd : ∀ i, i < nt → ∃ k, k < 27 ∧ a_tokenKinds i = nI k) (h : tr_T (gs_o nt a_tokenKinds) e) (hp : post (cm_pl (e 0) nt)) :
    ∀ (d i m : Nat), i + d = nt → i ≤ e 0 → (m : Int) = tr_s (gs_o nt a_tokenKinds) i → m ≤ 2 * i + 1 → wX_findBadShape_4 post f_tokenCount f_scriptSize f_saidPlace f_activationCount f_variableCount f_functionCount f_generatorCount f_ending f_valueSort f_valueNumber f_noteCount f_stepCount f_latestRun a_tokenKinds a_tokenOperands a_kinds a_operands a_parents a_behind a_ownFns a_meanings a_generatorFns a_frameTokens a_frameStages a_frameScopes a_keptEndings a_keptSorts a_keptNumbers a_frameCounts a_activeSlots a_variableBinders a_variableOuters a_variableSorts a_variableNumbers a_functionTokens a_functionScopes a_generatorStates a_noteSorts a_noteNumbers (d + 1) (nI m) (nI i) := by
  subst et
  have hs := tr_sum0 h
  intro d
  induction d with
  | zero =>
    intro i m hi he hm hb
    have hi : i = nt := by omega
    subst hi
    refine br_t (nI_le (by omega) (by omega)) (br_c (fun z => ?_) (fun z => ?_))
    · have hm0 : m = 0 := by
        have z2 : nI m = nI 0 := z
        rw [nI_eq (by omega) (by decide)] at z2
        exact z2
      have : e 0 = i := by
        by_cases y : i < e 0
        · have := hs.2 i y
          omega
        · omega
      rw [cm_pl0 this] at hp
      exact hp
    · have : i ≠ e 0 := by
        intro y
        apply z
        have h0 := hs.1
        rw [← y] at h0
        have : m = 0 := by omega
        rw [this]
        rfl
      rw [cm_pl2 (by omega)] at hp
      exact hp
  | succ d ih =>
    intro i m hi he hm hb
    refine br_f (nI_ge (by omega) (by omega)) (br_c (fun z => ?_) (fun z => ?_))
    · have hm0 : m = 0 := by
        have z2 : nI m = nI 0 := z
        rw [nI_eq (by omega) (by decide)] at z2
        exact z2
      have : e 0 = i := by
        by_cases y : i < e 0
        · have := hs.2 i y
          omega
        · omega
      rw [cm_pl1 (by omega), this] at hp
      exact hp
    · have hne : i ≠ e 0 := by
        intro y
        apply z
        have h0 := hs.1
        rw [← y] at h0
        have : m = 0 := by omega
        rw [this]
        rfl
      have h1 := hs.2 i (by omega)
      obtain ⟨q, rfl⟩ : ∃ q, m = q + 1 := ⟨m - 1, by omega⟩
      obtain ⟨kk, hk27, hk⟩ := hkd i (by omega)
      have ho := gs_oi nt a_tokenKinds i (by omega)
      rw [hk] at ho
      have ho3 := gs_op3 (nI kk)
      refine ⟨vp_in_nI (by omega) (by decide), ?_⟩
      rw [nI_clamp (by omega), hk]
      have e1 : nI (q + 1) + (nI (gw_op (nI kk)) - 1) = nI (q + gw_op (nI kk)) := by
        rw [← nI_1 q, ← nI_add]
        grind
      refine xm_ops kk hk27 (nm_r e1 (nm_r (nI_1 i) (ih (i + 1) _ (by omega) (by omega) ?_ (by omega))))
      show ((q + gw_op (nI kk) : Nat) : Int) = tr_s (gs_o nt a_tokenKinds) i + (gs_o nt a_tokenKinds i : Int) - 1
      rw [ho]
      omega
theorem cx_shape {post : Int32 → Prop} {nt : Nat} {e : Nat → Nat} (hnt : nt ≤ 48) (et : f_tokenCount = nI nt) (hkd : ∀ i, i < nt → ∃ k, k < 27 ∧ a_tokenKinds i = nI k) (h : tr_T (gs_o nt a_tokenKinds) e) (hp : post (cm_pl (e 0) nt)) : wpX_findBadShape post (f_tokenCount, f_scriptSize, f_saidPlace, f_activationCount, f_variableCount, f_functionCount, f_generatorCount, f_ending, f_valueSort, f_valueNumber, f_noteCount, f_stepCount, f_latestRun, a_tokenKinds, a_tokenOperands, a_kinds, a_operands, a_parents, a_behind, a_ownFns, a_meanings, a_generatorFns, a_frameTokens, a_frameStages, a_frameScopes, a_keptEndings, a_keptSorts, a_keptNumbers, a_frameCounts, a_activeSlots, a_variableBinders, a_variableOuters, a_variableSorts, a_variableNumbers, a_functionTokens, a_functionScopes, a_generatorStates, a_noteSorts, a_noteNumbers) :=
  ⟨nt + 1, cx_bad hnt et hkd h hp nt 0 1 (by omega) (by omega) rfl (by omega)⟩
theorem cx_copy2 {post : SX → Prop} {nt : Nat} (hnt : nt ≤ 48) (et : f_tokenCount = nI nt) : ∀ d i (K O : Nat → Int32), i + d = nt → (∀ j, j < i → K j = a_tokenKinds j ∧ O j = a_tokenOperands j) →
    (∀ K' O', (∀ j, j < nt → K' j = a_tokenKinds j ∧ O' j = a_tokenOperands j) → post (f_tokenCount, f_scriptSize, f_saidPlace, f_activationCount, f_variableCount, f_functionCount, f_generatorCount, f_ending, f_valueSort, f_valueNumber, f_noteCount, f_stepCount, f_latestRun, a_tokenKinds, a_tokenOperands, K', O', a_parents, a_behind, a_ownFns, a_meanings, a_generatorFns, a_frameTokens, a_frameStages, a_frameScopes, a_keptEndings, a_keptSorts, a_keptNumbers, a_frameCounts, a_activeSlots, a_variableBinders, a_variableOuters, a_variableSorts, a_variableNumbers, a_functionTokens, a_functionScopes, a_generatorStates, a_noteSorts, a_noteNumbers)) →
    wX_copyTokens_2 post f_tokenCount f_scriptSize f_saidPlace f_activationCount f_variableCount f_functionCount f_generatorCount f_ending f_valueSort f_valueNumber f_noteCount f_stepCount f_latestRun (d + 1) (nI i) a_tokenKinds a_tokenOperands K O a_parents a_behind a_ownFns a_meanings a_generatorFns a_frameTokens a_frameStages a_frameScopes a_keptEndings a_keptSorts a_keptNumbers a_frameCounts a_activeSlots a_variableBinders a_variableOuters a_variableSorts a_variableNumbers a_functionTokens a_functionScopes a_generatorStates a_noteSorts a_noteNumbers := by
  subst et
  intro d
  induction d with
  | zero =>
    intro i K O hi hj hp
    have hi : i = nt := by omega
    subst hi
    exact br_t (nI_le (by omega) (by omega)) (hp K O hj)
  | succ d ih =>
    intro i K O hi hj hp
    have iv : vp_in (nI i) 48 := vp_in_nI (by omega) (by decide)
    have ei : (nI i).toNatClampNeg = i := nI_clamp (by omega)
    refine br_f (nI_ge (by omega) (by omega)) ⟨iv, iv, nm_r (e' := upd K i (a_tokenKinds i)) (by rw [ei]) ⟨iv, iv, nm_r (e' := upd O i (a_tokenOperands i)) (by rw [ei]) (nm_r (nI_1 i) (ih (i + 1) _ _ (by omega) ?_ hp))⟩⟩
    intro j hj2
    by_cases z : j = i
    · subst z
      rw [pk_us, pk_us]
      exact ⟨rfl, rfl⟩
    · rw [pk_un z, pk_un z]
      exact hj j (by omega)
theorem cx_copy {post : SX → Prop} {nt : Nat} (hnt : nt ≤ 48) (et : f_tokenCount = nI nt) (hp : ∀ K' O', (∀ j, j < nt → K' j = a_tokenKinds j ∧ O' j = a_tokenOperands j) → post (f_tokenCount, f_scriptSize, f_saidPlace, f_activationCount, f_variableCount, f_functionCount, f_generatorCount, f_ending, f_valueSort, f_valueNumber, f_noteCount, f_stepCount, f_latestRun, a_tokenKinds, a_tokenOperands, K', O', a_parents, a_behind, a_ownFns, a_meanings, a_generatorFns, a_frameTokens, a_frameStages, a_frameScopes, a_keptEndings, a_keptSorts, a_keptNumbers, a_frameCounts, a_activeSlots, a_variableBinders, a_variableOuters, a_variableSorts, a_variableNumbers, a_functionTokens, a_functionScopes, a_generatorStates, a_noteSorts, a_noteNumbers)) : wpX_copyTokens post (f_tokenCount, f_scriptSize, f_saidPlace, f_activationCount, f_variableCount, f_functionCount, f_generatorCount, f_ending, f_valueSort, f_valueNumber, f_noteCount, f_stepCount, f_latestRun, a_tokenKinds, a_tokenOperands, a_kinds, a_operands, a_parents, a_behind, a_ownFns, a_meanings, a_generatorFns, a_frameTokens, a_frameStages, a_frameScopes, a_keptEndings, a_keptSorts, a_keptNumbers, a_frameCounts, a_activeSlots, a_variableBinders, a_variableOuters, a_variableSorts, a_variableNumbers, a_functionTokens, a_functionScopes, a_generatorStates, a_noteSorts, a_noteNumbers) :=
  ⟨nt + 1, cx_copy2 hnt et nt 0 a_kinds a_operands (by omega) (fun j hj => absurd hj (Nat.not_lt_zero _)) hp⟩
end
def cx_P (nt : Nat) (o e : Nat → Nat) (i : Nat) (P : Nat → Int32) : Prop := P 0 = -1 ∧ ∀ p j, i ≤ p → p < nt → j < o p → P (tr_c e p j) = nI p
section
variable {f_tokenCount f_scriptSize f_saidPlace f_activationCount f_variableCount f_functionCount f_generatorCount f_ending f_valueSort : Int32} {f_valueNumber : Int64} {f_noteCount f_stepCount f_latestRun : Int32} {a_tokenKinds a_tokenOperands a_kinds a_operands a_parents a_behind a_ownFns a_meanings a_generatorFns a_frameTokens a_frameStages a_frameScopes a_keptEndings a_keptSorts : Nat → Int32} {a_keptNumbers : Nat → Int64} {a_frameCounts a_activeSlots a_variableBinders a_variableOuters a_variableSorts : Nat → Int32} {a_variableNumbers : Nat → Int64} {a_functionTokens a_functionScopes a_generatorStates a_noteSorts : Nat → Int32} {a_noteNumbers : Nat → Int64}
theorem cx_l36 {post : SX → Prop} {J : Int32 → (Nat → Int32) → (Nat → Int32) → (Nat → Int32) → (Nat → Int32) → (Nat → Int32) → (Nat → Int32) → (Nat → Int32) → (Nat → Int32) → (Nat → Int32) → (Nat → Int32) → (Nat → Int32) → (Nat → Int32) → (Nat → Int32) → (Nat → Int32) → (Nat → Int64) → (Nat → Int32) → (Nat → Int32) → (Nat → Int32) → (Nat → Int32) → (Nat → Int32) → (Nat → Int64) → (Nat → Int32) → (Nat → Int32) → (Nat → Int32) → (Nat → Int32) → (Nat → Int64) → Prop}
    {nt i : Nat} {o e : Nat → Nat} (hnt : nt ≤ 48) (et : f_tokenCount = nI nt) (h : tr_T o e) (h3 : ∀ i, o i ≤ 3) (h0 : e 0 = nt) (hi : i < nt) (hb : ∀ j, i < j → j < nt → a_behind j = nI (e j)) :
    ∀ d j (P : Nat → Int32), j + d = o i → cx_P nt o e (i + 1) P → (∀ j', j' < j → P (tr_c e i j') = nI i) →
    (∀ P', cx_P nt o e i P' → J (nI i + (-1)) a_tokenKinds a_tokenOperands a_kinds a_operands P' (upd a_behind i (nI (e i))) a_ownFns a_meanings a_generatorFns a_frameTokens a_frameStages a_frameScopes a_keptEndings a_keptSorts a_keptNumbers a_frameCounts a_activeSlots a_variableBinders a_variableOuters a_variableSorts a_variableNumbers a_functionTokens a_functionScopes a_generatorStates a_noteSorts a_noteNumbers) →
    wX_linkTokens_36 post J (nI i) (nI (o i)) f_tokenCount f_scriptSize f_saidPlace f_activationCount f_variableCount f_functionCount f_generatorCount f_ending f_valueSort f_valueNumber f_noteCount f_stepCount f_latestRun (d + 1) (nI (tr_c e i j)) (nI j) a_tokenKinds a_tokenOperands a_kinds a_operands P a_behind a_ownFns a_meanings a_generatorFns a_frameTokens a_frameStages a_frameScopes a_keptEndings a_keptSorts a_keptNumbers a_frameCounts a_activeSlots a_variableBinders a_variableOuters a_variableSorts a_variableNumbers a_functionTokens a_functionScopes a_generatorStates a_noteSorts a_noteNumbers := by
  subst et
  have iv : vp_in (nI i) 48 := vp_in_nI (by omega) (by decide)
  have ei : (nI i).toNatClampNeg = i := nI_clamp (by omega)
  have o3 := h3 i
  intro d
  induction d with
  | zero =>
    intro j P hj hP hc hp
    have hj : j = o i := by omega
    subst hj
    refine br_t (nI_le (by omega) (by omega)) ⟨iv, nm_r (e' := upd a_behind i (nI (e i))) (by rw [ei, ← h.1 i]) (nm_e (hp P ⟨hP.1, ?_⟩))⟩
    intro p j hp1 hp2 hjj
    by_cases z : p = i
    · subst z
      exact hc j hjj
    · exact hP.2 p j (by omega) hp2 hjj
  | succ d ih =>
    intro j P hj hP hc hp
    have hin := tr_cin h (show j < o i by omega)
    have hne := tr_nest h _ 0 i (Nat.le_refl _) (by omega) (by omega)
    have ivc : vp_in (nI (tr_c e i j)) 48 := vp_in_nI (by omega) (by decide)
    have ec : (nI (tr_c e i j)).toNatClampNeg = tr_c e i j := nI_clamp (by omega)
    refine br_f (nI_ge (by omega) (by omega)) (br_f (nI_ge (by omega) (by omega)) ⟨ivc, nm_r (e' := upd P (tr_c e i j) (nI i)) (by rw [ec]) ⟨ivc, nm_r (e' := nI (tr_c e i (j + 1))) (by rw [ec, hb _ hin.1 (by omega)]; rfl) (nm_r (nI_1 j) (ih (j + 1) _ (by omega) ⟨?_, ?_⟩ ?_ hp))⟩⟩)
    · rw [pk_un (by omega)]
      exact hP.1
    · intro p j' hp1 hp2 hj'
      rw [pk_un]
      · exact hP.2 p j' hp1 hp2 hj'
      · intro z
        have := (tr_uniq h hj' (show j < o i by omega) z).1
        omega
    · intro j' hj'
      by_cases z : j' = j
      · subst z
        rw [pk_us]
      · rw [pk_un]
        · exact hc j' (by omega)
        · intro y
          exact z (tr_cinj h y)
end
section
variable {f_tokenCount f_scriptSize f_saidPlace f_activationCount f_variableCount f_functionCount f_generatorCount f_ending f_valueSort : Int32} {f_valueNumber : Int64} {f_noteCount f_stepCount f_latestRun : Int32} {a_tokenKinds a_tokenOperands a_kinds a_operands a_parents a_behind a_ownFns a_meanings a_generatorFns a_frameTokens a_frameStages a_frameScopes a_keptEndings a_keptSorts : Nat → Int32} {a_keptNumbers : Nat → Int64} {a_frameCounts a_activeSlots a_variableBinders a_variableOuters a_variableSorts : Nat → Int32} {a_variableNumbers : Nat → Int64} {a_functionTokens a_functionScopes a_generatorStates a_noteSorts : Nat → Int32} {a_noteNumbers : Nat → Int64}
theorem cx_l14 {post : SX → Prop} {nt : Nat} {o e : Nat → Nat} (hnt : nt ≤ 48) (et : f_tokenCount = nI nt) (h : tr_T o e) (h3 : ∀ i, o i ≤ 3) (h0 : e 0 = nt) (hk : ∀ i, i < nt → ∃ k, k < 27 ∧ a_kinds i = nI k ∧ o i = gw_op (nI k)) :
    ∀ m (P b : Nat → Int32), m ≤ nt → cx_P nt o e m P → (∀ j, m ≤ j → j < nt → b j = nI (e j)) →
    (∀ P' b', cx_P nt o e 0 P' → (∀ j, j < nt → b' j = nI (e j)) → post (f_tokenCount, f_scriptSize, f_saidPlace, f_activationCount, f_variableCount, f_functionCount, f_generatorCount, f_ending, f_valueSort, f_valueNumber, f_noteCount, f_stepCount, f_latestRun, a_tokenKinds, a_tokenOperands, a_kinds, a_operands, P', b', a_ownFns, a_meanings, a_generatorFns, a_frameTokens, a_frameStages, a_frameScopes, a_keptEndings, a_keptSorts, a_keptNumbers, a_frameCounts, a_activeSlots, a_variableBinders, a_variableOuters, a_variableSorts, a_variableNumbers, a_functionTokens, a_functionScopes, a_generatorStates, a_noteSorts, a_noteNumbers)) →
    wX_linkTokens_14 post f_tokenCount f_scriptSize f_saidPlace f_activationCount f_variableCount f_functionCount f_generatorCount f_ending f_valueSort f_valueNumber f_noteCount f_stepCount f_latestRun (m + 1) (nI m + (-1)) a_tokenKinds a_tokenOperands a_kinds a_operands P b a_ownFns a_meanings a_generatorFns a_frameTokens a_frameStages a_frameScopes a_keptEndings a_keptSorts a_keptNumbers a_frameCounts a_activeSlots a_variableBinders a_variableOuters a_variableSorts a_variableNumbers a_functionTokens a_functionScopes a_generatorStates a_noteSorts a_noteNumbers := by
  intro m
  induction m with
  | zero =>
    intro P b hm hP hb hp
    exact br_t (by decide) (hp P b hP (fun j hj => hb j (by omega) hj))
  | succ m ih =>
    intro P b hm hP hb hp
    obtain ⟨k, hk27, e1, e2⟩ := hk m (by omega)
    rw [pk_m1]
    refine br_f (nI_pos (by omega)) ⟨vp_in_nI (by omega) (by decide), ?_⟩
    rw [nI_clamp (by omega), e1]
    refine xm_ops k hk27 (nm_r (e' := nI (tr_c e m 0)) (nI_1 m) ⟨o m + 1, ?_⟩)
    rw [← e2]
    refine cx_l36 (a_behind := b) hnt et h h3 h0 (by omega) (fun j hj1 hj2 => hb j (by omega) hj2) (o m) 0 P (by omega) hP (fun j' hj' => absurd hj' (Nat.not_lt_zero _)) ?_
    intro P' hP'
    refine ih P' _ (by omega) hP' ?_ hp
    intro j hj1 hj2
    by_cases z : j = m
    · subst z
      rw [pk_us]
    · rw [pk_un z]
      exact hb j (by omega) hj2
theorem cx_link {post : SX → Prop} {nt : Nat} {o e : Nat → Nat} (hnt : nt ≤ 48) (hn0 : 0 < nt) (et : f_tokenCount = nI nt) (h : tr_T o e) (h3 : ∀ i, o i ≤ 3) (h0 : e 0 = nt) (hk : ∀ i, i < nt → ∃ k, k < 27 ∧ a_kinds i = nI k ∧ o i = gw_op (nI k))
    (hp : ∀ P' b', cx_P nt o e 0 P' → (∀ j, j < nt → b' j = nI (e j)) → post (f_tokenCount, f_scriptSize, f_saidPlace, f_activationCount, f_variableCount, f_functionCount, f_generatorCount, f_ending, f_valueSort, f_valueNumber, f_noteCount, f_stepCount, f_latestRun, a_tokenKinds, a_tokenOperands, a_kinds, a_operands, P', b', a_ownFns, a_meanings, a_generatorFns, a_frameTokens, a_frameStages, a_frameScopes, a_keptEndings, a_keptSorts, a_keptNumbers, a_frameCounts, a_activeSlots, a_variableBinders, a_variableOuters, a_variableSorts, a_variableNumbers, a_functionTokens, a_functionScopes, a_generatorStates, a_noteSorts, a_noteNumbers)) : wpX_linkTokens post (f_tokenCount, f_scriptSize, f_saidPlace, f_activationCount, f_variableCount, f_functionCount, f_generatorCount, f_ending, f_valueSort, f_valueNumber, f_noteCount, f_stepCount, f_latestRun, a_tokenKinds, a_tokenOperands, a_kinds, a_operands, a_parents, a_behind, a_ownFns, a_meanings, a_generatorFns, a_frameTokens, a_frameStages, a_frameScopes, a_keptEndings, a_keptSorts, a_keptNumbers, a_frameCounts, a_activeSlots, a_variableBinders, a_variableOuters, a_variableSorts, a_variableNumbers, a_functionTokens, a_functionScopes, a_generatorStates, a_noteSorts, a_noteNumbers) := by
  refine nm_e (nm_r (e' := nI nt + (-1)) ?_ ⟨nt + 1, ?_⟩)
  · rw [et]
    grind
  · exact cx_l14 hnt et h h3 h0 hk nt (upd a_parents 0 (-1)) a_behind (Nat.le_refl _) ⟨pk_us, fun p j hp1 hp2 => by omega⟩ (fun j hj1 hj2 => by omega) hp
end
end
section
section
variable {f_tokenCount f_scriptSize f_saidPlace f_activationCount f_variableCount f_functionCount f_generatorCount f_ending f_valueSort : Int32} {f_valueNumber : Int64} {f_noteCount f_stepCount f_latestRun : Int32} {a_tokenKinds a_tokenOperands a_kinds a_operands a_parents a_behind a_ownFns a_meanings a_generatorFns a_frameTokens a_frameStages a_frameScopes a_keptEndings a_keptSorts : Nat → Int32} {a_keptNumbers : Nat → Int64} {a_frameCounts a_activeSlots a_variableBinders a_variableOuters a_variableSorts : Nat → Int32} {a_variableNumbers : Nat → Int64} {a_functionTokens a_functionScopes a_generatorStates a_noteSorts : Nat → Int32} {a_noteNumbers : Nat → Int64}
theorem cx_own2 {post : SX → Prop} {nt : Nat} {e : Nat → Nat} {g0 : Nat → Int32} (hnt : nt ≤ 48) (et : f_tokenCount = nI nt) (h : tr_T (gs_o nt a_kinds) e) (h0 : e 0 = nt) (hP0 : a_parents 0 = -1) (hP : ∀ k, 0 < k → k < nt → a_parents k = nI (tr_pa e k)) :
    ∀ d i (W g : Nat → Int32), i + d = nt → (∀ j, j < i → W j = gs_ow a_kinds e j) → g = cm_g a_kinds (gs_ow a_kinds e) g0 i →
    (∀ W', (∀ j, j < nt → W' j = gs_ow a_kinds e j) → post (f_tokenCount, f_scriptSize, f_saidPlace, f_activationCount, f_variableCount, f_functionCount, f_generatorCount, f_ending, f_valueSort, f_valueNumber, f_noteCount, f_stepCount, f_latestRun, a_tokenKinds, a_tokenOperands, a_kinds, a_operands, a_parents, a_behind, W', a_meanings, cm_g a_kinds (gs_ow a_kinds e) g0 nt, a_frameTokens, a_frameStages, a_frameScopes, a_keptEndings, a_keptSorts, a_keptNumbers, a_frameCounts, a_activeSlots, a_variableBinders, a_variableOuters, a_variableSorts, a_variableNumbers, a_functionTokens, a_functionScopes, a_generatorStates, a_noteSorts, a_noteNumbers)) →
    wX_findOwnFns_2 post f_tokenCount f_scriptSize f_saidPlace f_activationCount f_variableCount f_functionCount f_generatorCount f_ending f_valueSort f_valueNumber f_noteCount f_stepCount f_latestRun (d + 1) (nI i) a_tokenKinds a_tokenOperands a_kinds a_operands a_parents a_behind W a_meanings g a_frameTokens a_frameStages a_frameScopes a_keptEndings a_keptSorts a_keptNumbers a_frameCounts a_activeSlots a_variableBinders a_variableOuters a_variableSorts a_variableNumbers a_functionTokens a_functionScopes a_generatorStates a_noteSorts a_noteNumbers := by
  subst et
  have hW := cm_ow h h0
  intro d
  induction d with
  | zero =>
    intro i W g hi hw hg hp
    have hi : i = nt := by omega
    subst hi
    subst hg
    exact br_t (nI_le (by omega) (by omega)) (hp W hw)
  | succ d ih =>
    intro i W g hi hw hg hp
    have iv : vp_in (nI i) 48 := vp_in_nI (by omega) (by decide)
    have ei : (nI i).toNatClampNeg = i := nI_clamp (by omega)
    have hw2 : ∀ j, j < i + 1 → upd W i (gs_ow a_kinds e i) j = gs_ow a_kinds e j := by
      intro j hj
      by_cases z : j = i
      · subst z
        rw [pk_us]
      · rw [pk_un z]
        exact hw j (by omega)
    have f64 : wX_findOwnFns_64 post (wX_findOwnFns_2 post (nI nt) f_scriptSize f_saidPlace f_activationCount f_variableCount f_functionCount f_generatorCount f_ending f_valueSort f_valueNumber f_noteCount f_stepCount f_latestRun (d + 1)) (nI i) (nI nt) f_scriptSize f_saidPlace f_activationCount f_variableCount f_functionCount f_generatorCount f_ending f_valueSort f_valueNumber f_noteCount f_stepCount f_latestRun a_tokenKinds a_tokenOperands a_kinds a_operands a_parents a_behind (upd W i (gs_ow a_kinds e i)) a_meanings (upd g i 0) a_frameTokens a_frameStages a_frameScopes a_keptEndings a_keptSorts a_keptNumbers a_frameCounts a_activeSlots a_variableBinders a_variableOuters a_variableSorts a_variableNumbers a_functionTokens a_functionScopes a_generatorStates a_noteSorts a_noteNumbers := by
      refine ⟨iv, ?_⟩
      rw [ei]
      refine br_c (fun k22 => ⟨iv, ?_⟩) (fun k22 => ?_)
      · rw [pk_us]
        refine br_c (fun c => ?_) (fun c => ?_)
        · refine nm_r (nI_1 i) (ih (i + 1) _ _ (by omega) hw2 ?_ hp)
          show _ = (if a_kinds i = 22 ∧ ¬ gs_ow a_kinds e i < 0 then _ else upd (cm_g a_kinds (gs_ow a_kinds e) g0 i) i 0)
          rw [if_neg (fun z => z.2 c), hg]
        · have i48 : vp_in (gs_ow a_kinds e i) 48 := by
            rcases hW i (by omega) with z | ⟨f, hf, z, _⟩
            · rw [z] at c
              exact absurd (by decide) c
            · rw [z]
              exact vp_in_nI (by omega) (by decide)
          refine ⟨iv, i48, nm_r (e' := upd (upd g i 0) (gs_ow a_kinds e i).toNatClampNeg 1) (by rw [ym_b1]) (nm_r (nI_1 i) (ih (i + 1) _ _ (by omega) hw2 ?_ hp))⟩
          show _ = (if a_kinds i = 22 ∧ ¬ gs_ow a_kinds e i < 0 then upd (upd (cm_g a_kinds (gs_ow a_kinds e) g0 i) i 0) (gs_ow a_kinds e i).toNatClampNeg 1 else _)
          rw [if_pos ⟨k22, c⟩, hg]
      · refine nm_r (nI_1 i) (ih (i + 1) _ _ (by omega) hw2 ?_ hp)
        show _ = (if a_kinds i = 22 ∧ ¬ gs_ow a_kinds e i < 0 then _ else upd (cm_g a_kinds (gs_ow a_kinds e) g0 i) i 0)
        rw [if_neg (fun z => k22 z.1), hg]
    refine br_f (nI_ge (by omega) (by omega)) ⟨iv, nm_r (e' := upd g i 0) (by rw [ei, ym_b0]) ⟨iv, ?_⟩⟩
    by_cases z : i = 0
    · subst z
      refine nm_r (e' := -1) hP0 (br_f (by decide) ⟨iv, nm_r (e' := upd W 0 (gs_ow a_kinds e 0)) rfl f64⟩)
    · have hp2 := tr_pk h (gs_o3 nt a_kinds) (show 0 < i by omega) (by omega)
      have how := gs_owp (K := a_kinds) h (gs_o3 nt a_kinds) (show 0 < i by omega) (by omega)
      have ivp : vp_in (nI (tr_pa e i)) 48 := vp_in_nI (by omega) (by decide)
      have ep : (nI (tr_pa e i)).toNatClampNeg = tr_pa e i := nI_clamp (by omega)
      refine nm_r (e' := nI (tr_pa e i)) (by rw [ei]; exact hP i (by omega) (by omega)) (br_t (nI_pos' (by omega)) ⟨ivp, ?_⟩)
      rw [ep]
      refine br_c (fun k5 => ⟨iv, nm_r (e' := upd W i (gs_ow a_kinds e i)) (by rw [ei, how, if_pos k5]) f64⟩) (fun k5 => ⟨ivp, iv, nm_r (e' := upd W i (gs_ow a_kinds e i)) ?_ f64⟩)
      rw [ei, how, if_neg k5, hw (tr_pa e i) hp2.1]
theorem cx_own {post : SX → Prop} {nt : Nat} {e : Nat → Nat} (hnt : nt ≤ 48) (et : f_tokenCount = nI nt) (h : tr_T (gs_o nt a_kinds) e) (h0 : e 0 = nt) (hP0 : a_parents 0 = -1) (hP : ∀ k, 0 < k → k < nt → a_parents k = nI (tr_pa e k))
    (hp : ∀ W', (∀ j, j < nt → W' j = gs_ow a_kinds e j) → post (f_tokenCount, f_scriptSize, f_saidPlace, f_activationCount, f_variableCount, f_functionCount, f_generatorCount, f_ending, f_valueSort, f_valueNumber, f_noteCount, f_stepCount, f_latestRun, a_tokenKinds, a_tokenOperands, a_kinds, a_operands, a_parents, a_behind, W', a_meanings, cm_g a_kinds (gs_ow a_kinds e) a_generatorFns nt, a_frameTokens, a_frameStages, a_frameScopes, a_keptEndings, a_keptSorts, a_keptNumbers, a_frameCounts, a_activeSlots, a_variableBinders, a_variableOuters, a_variableSorts, a_variableNumbers, a_functionTokens, a_functionScopes, a_generatorStates, a_noteSorts, a_noteNumbers)) : wpX_findOwnFns post (f_tokenCount, f_scriptSize, f_saidPlace, f_activationCount, f_variableCount, f_functionCount, f_generatorCount, f_ending, f_valueSort, f_valueNumber, f_noteCount, f_stepCount, f_latestRun, a_tokenKinds, a_tokenOperands, a_kinds, a_operands, a_parents, a_behind, a_ownFns, a_meanings, a_generatorFns, a_frameTokens, a_frameStages, a_frameScopes, a_keptEndings, a_keptSorts, a_keptNumbers, a_frameCounts, a_activeSlots, a_variableBinders, a_variableOuters, a_variableSorts, a_variableNumbers, a_functionTokens, a_functionScopes, a_generatorStates, a_noteSorts, a_noteNumbers) :=
  ⟨nt + 1, cx_own2 (g0 := a_generatorFns) hnt et h h0 hP0 hP nt 0 a_ownFns a_generatorFns (by omega) (fun j hj => absurd hj (Nat.not_lt_zero _)) rfl hp⟩
theorem cx_binds {post : Int32 → Prop} {p k : Nat} (hp : p < 48) (hk : k < 48) (h1 : (a_kinds p = 5 ∨ (a_kinds p = 4 ∨ a_kinds p = 20) ∧ k ≠ p + 1) → post 1) (h0 : ¬ (a_kinds p = 5 ∨ (a_kinds p = 4 ∨ a_kinds p = 20) ∧ k ≠ p + 1) → post 0) : wpX_binds post (f_tokenCount, f_scriptSize, f_saidPlace, f_activationCount, f_variableCount, f_functionCount, f_generatorCount, f_ending, f_valueSort, f_valueNumber, f_noteCount, f_stepCount, f_latestRun, a_tokenKinds, a_tokenOperands, a_kinds, a_operands, a_parents, a_behind, a_ownFns, a_meanings, a_generatorFns, a_frameTokens, a_frameStages, a_frameScopes, a_keptEndings, a_keptSorts, a_keptNumbers, a_frameCounts, a_activeSlots, a_variableBinders, a_variableOuters, a_variableSorts, a_variableNumbers, a_functionTokens, a_functionScopes, a_generatorStates, a_noteSorts, a_noteNumbers) (nI p) (nI k) := by
  have iv : vp_in (nI p) 48 := vp_in_nI hp (by decide)
  have ep : (nI p).toNatClampNeg = p := nI_clamp (by omega)
  have f33 : (a_kinds p = 4 ∨ a_kinds p = 20) → ¬ a_kinds p = 5 → wX_binds_33 post (nI p) (nI k) f_tokenCount f_scriptSize f_saidPlace f_activationCount f_variableCount f_functionCount f_generatorCount f_ending f_valueSort f_valueNumber f_noteCount f_stepCount f_latestRun a_tokenKinds a_tokenOperands a_kinds a_operands a_parents a_behind a_ownFns a_meanings a_generatorFns a_frameTokens a_frameStages a_frameScopes a_keptEndings a_keptSorts a_keptNumbers a_frameCounts a_activeSlots a_variableBinders a_variableOuters a_variableSorts a_variableNumbers a_functionTokens a_functionScopes a_generatorStates a_noteSorts a_noteNumbers := by
    intro c c5
    by_cases z : k = p + 1
    · refine br_t (by rw [z, nI_1]) (h0 (fun y => ?_))
      rcases y with y | y
      · exact c5 y
      · exact y.2 z
    · refine br_f ?_ (h1 (Or.inr ⟨c, z⟩))
      rw [nI_1, nI_eq (by omega) (by omega)]
      exact z
  refine ⟨iv, ?_⟩
  rw [ep]
  refine br_c (fun c5 => h1 (Or.inl c5)) (fun c5 => ⟨iv, br_c (fun c4 => f33 (Or.inl c4) c5) (fun c4 => ⟨iv, br_c (fun c20 => f33 (Or.inr c20) c5) (fun c20 => h0 ?_)⟩)⟩)
  rintro (y | ⟨y | y, _⟩)
  · exact c5 y
  · exact c4 y
  · exact c20 y
theorem cx_fb {post : Int32 → Prop} {nt i : Nat} {e : Nat → Nat} (hnt : nt ≤ 48) (h : tr_T (gs_o nt a_kinds) e) (h0 : e 0 = nt) (hP0 : a_parents 0 = -1) (hP : ∀ k, 0 < k → k < nt → a_parents k = nI (tr_pa e k)) (hi : i < nt) :
    ∀ n k m, k < nt → m + k ≤ i → k < n → post (cm_fb a_operands (a_operands i) (gs_sc a_kinds e k)) → wX_findBinder_12 post (nI i) f_tokenCount f_scriptSize f_saidPlace f_activationCount f_variableCount f_functionCount f_generatorCount f_ending f_valueSort f_valueNumber f_noteCount f_stepCount f_latestRun a_tokenKinds a_tokenOperands a_kinds a_operands a_parents a_behind a_ownFns a_meanings a_generatorFns a_frameTokens a_frameStages a_frameScopes a_keptEndings a_keptSorts a_keptNumbers a_frameCounts a_activeSlots a_variableBinders a_variableOuters a_variableSorts a_variableNumbers a_functionTokens a_functionScopes a_generatorStates a_noteSorts a_noteNumbers n (nI k) (a_parents k) (nI m) := by
  have ivi : vp_in (nI i) 48 := vp_in_nI (by omega) (by decide)
  have ei : (nI i).toNatClampNeg = i := nI_clamp (by omega)
  intro n
  induction n with
  | zero => intro k m _ _ hn; omega
  | succ n ih =>
    intro k m hk hm hn hp
    refine br_f (nI_ge (b := 48) (by omega) (by decide)) ?_
    by_cases z : k = 0
    · subst z
      rw [hP0]
      exact br_t (by decide) hp
    · have hp2 := tr_pk h (gs_o3 nt a_kinds) (show 0 < k by omega) (by omega)
      have hsc := gs_scp (K := a_kinds) h (gs_o3 nt a_kinds) (show 0 < k by omega) (by omega)
      have hbd := (cm_bd h (show 0 < k by omega) (by omega) h0).1
      rw [hP k (by omega) hk]
      have ivp : vp_in (nI (tr_pa e k)) 48 := vp_in_nI (by omega) (by decide)
      have ep : (nI (tr_pa e k)).toNatClampNeg = tr_pa e k := nI_clamp (by omega)
      have f49 : post (cm_fb a_operands (a_operands i) (gs_sc a_kinds e (tr_pa e k))) → wX_findBinder_49 post (wX_findBinder_12 post (nI i) f_tokenCount f_scriptSize f_saidPlace f_activationCount f_variableCount f_functionCount f_generatorCount f_ending f_valueSort f_valueNumber f_noteCount f_stepCount f_latestRun a_tokenKinds a_tokenOperands a_kinds a_operands a_parents a_behind a_ownFns a_meanings a_generatorFns a_frameTokens a_frameStages a_frameScopes a_keptEndings a_keptSorts a_keptNumbers a_frameCounts a_activeSlots a_variableBinders a_variableOuters a_variableSorts a_variableNumbers a_functionTokens a_functionScopes a_generatorStates a_noteSorts a_noteNumbers n) (nI i) (nI (tr_pa e k)) (nI m) f_tokenCount f_scriptSize f_saidPlace f_activationCount f_variableCount f_functionCount f_generatorCount f_ending f_valueSort f_valueNumber f_noteCount f_stepCount f_latestRun a_tokenKinds a_tokenOperands a_kinds a_operands a_parents a_behind a_ownFns a_meanings a_generatorFns a_frameTokens a_frameStages a_frameScopes a_keptEndings a_keptSorts a_keptNumbers a_frameCounts a_activeSlots a_variableBinders a_variableOuters a_variableSorts a_variableNumbers a_functionTokens a_functionScopes a_generatorStates a_noteSorts a_noteNumbers := by
        intro hq
        exact ⟨ivp, nm_r (e' := a_parents (tr_pa e k)) (by rw [ep]) (nm_r (nI_1 m) (ih _ _ (by omega) (by omega) (by omega) hq))⟩
      refine br_f (nI_pos (by omega)) ?_
      refine cx_binds (by omega) (by omega) (fun c => br_f (by decide) ⟨ivp, ivi, ?_⟩) (fun c => br_t rfl ?_)
      · rw [ep, ei]
        rw [hsc, if_pos (hbd.mpr c)] at hp
        have hp : post (if a_operands (tr_pa e k) = a_operands i then nI (tr_pa e k) else cm_fb a_operands (a_operands i) (gs_sc a_kinds e (tr_pa e k))) := hp
        refine br_c (fun d => ?_) (fun d => ?_)
        · rw [if_pos d] at hp
          exact hp
        · rw [if_neg d] at hp
          exact f49 hp
      · rw [hsc, if_neg (fun y => c (hbd.mp y))] at hp
        exact f49 hp
theorem cx_mean2 {post : SX → Prop} {nt : Nat} {e : Nat → Nat} (hnt : nt ≤ 48) (et : f_tokenCount = nI nt) (h : tr_T (gs_o nt a_kinds) e) (h0 : e 0 = nt) (hP0 : a_parents 0 = -1) (hP : ∀ k, 0 < k → k < nt → a_parents k = nI (tr_pa e k)) :
    ∀ d i (Mn : Nat → Int32), i + d = nt → (∀ j, j < i → Mn j = cm_m a_kinds a_operands e j) →
    (∀ M', (∀ j, j < nt → M' j = cm_m a_kinds a_operands e j) → post (f_tokenCount, f_scriptSize, f_saidPlace, f_activationCount, f_variableCount, f_functionCount, f_generatorCount, f_ending, f_valueSort, f_valueNumber, f_noteCount, f_stepCount, f_latestRun, a_tokenKinds, a_tokenOperands, a_kinds, a_operands, a_parents, a_behind, a_ownFns, M', a_generatorFns, a_frameTokens, a_frameStages, a_frameScopes, a_keptEndings, a_keptSorts, a_keptNumbers, a_frameCounts, a_activeSlots, a_variableBinders, a_variableOuters, a_variableSorts, a_variableNumbers, a_functionTokens, a_functionScopes, a_generatorStates, a_noteSorts, a_noteNumbers)) →
    wX_findMeanings_2 post f_tokenCount f_scriptSize f_saidPlace f_activationCount f_variableCount f_functionCount f_generatorCount f_ending f_valueSort f_valueNumber f_noteCount f_stepCount f_latestRun (d + 1) (nI i) a_tokenKinds a_tokenOperands a_kinds a_operands a_parents a_behind a_ownFns Mn a_generatorFns a_frameTokens a_frameStages a_frameScopes a_keptEndings a_keptSorts a_keptNumbers a_frameCounts a_activeSlots a_variableBinders a_variableOuters a_variableSorts a_variableNumbers a_functionTokens a_functionScopes a_generatorStates a_noteSorts a_noteNumbers := by
  subst et
  intro d
  induction d with
  | zero =>
    intro i Mn hi hm hp
    have hi : i = nt := by omega
    subst hi
    exact br_t (nI_le (by omega) (by omega)) (hp Mn hm)
  | succ d ih =>
    intro i Mn hi hm hp
    have iv : vp_in (nI i) 48 := vp_in_nI (by omega) (by decide)
    have ei : (nI i).toNatClampNeg = i := nI_clamp (by omega)
    have hm2 : ∀ v, v = cm_m a_kinds a_operands e i → ∀ j, j < i + 1 → upd Mn i v j = cm_m a_kinds a_operands e j := by
      intro v ev j hj
      by_cases z : j = i
      · subst z
        rw [pk_us]
        exact ev
      · rw [pk_un z]
        exact hm j (by omega)
    have f1 : (a_kinds i = 2 ∨ a_kinds i = 3) → wX_findMeanings_35 post (wX_findMeanings_2 post (nI nt) f_scriptSize f_saidPlace f_activationCount f_variableCount f_functionCount f_generatorCount f_ending f_valueSort f_valueNumber f_noteCount f_stepCount f_latestRun (d + 1)) (nI i) 1 (nI nt) f_scriptSize f_saidPlace f_activationCount f_variableCount f_functionCount f_generatorCount f_ending f_valueSort f_valueNumber f_noteCount f_stepCount f_latestRun a_tokenKinds a_tokenOperands a_kinds a_operands a_parents a_behind a_ownFns Mn a_generatorFns a_frameTokens a_frameStages a_frameScopes a_keptEndings a_keptSorts a_keptNumbers a_frameCounts a_activeSlots a_variableBinders a_variableOuters a_variableSorts a_variableNumbers a_functionTokens a_functionScopes a_generatorStates a_noteSorts a_noteNumbers := by
      intro c
      refine br_f (by decide) ⟨iv, nm_r (e' := a_parents i) (by rw [ei]) ⟨i + 1, ?_⟩⟩
      refine cx_fb hnt h h0 hP0 hP (by omega) (i + 1) i 0 (by omega) (by omega) (by omega) ⟨iv, nm_r (by rw [ei]) (nm_r (nI_1 i) (ih (i + 1) _ (by omega) (hm2 _ ?_) hp))⟩
      unfold cm_m
      rw [if_pos c]
    refine br_f (nI_ge (by omega) (by omega)) ⟨iv, ?_⟩
    rw [ei]
    refine br_c (fun c2 => f1 (Or.inl c2)) (fun c2 => ⟨iv, br_c (fun c3 => f1 (Or.inr c3)) (fun c3 => br_t rfl ⟨iv, nm_r (by rw [ei]) (nm_r (nI_1 i) (ih (i + 1) _ (by omega) (hm2 _ ?_) hp))⟩)⟩)
    unfold cm_m
    rw [if_neg (fun z => by rcases z with z | z; exact c2 z; exact c3 z)]
theorem cx_mean {post : SX → Prop} {nt : Nat} {e : Nat → Nat} (hnt : nt ≤ 48) (et : f_tokenCount = nI nt) (h : tr_T (gs_o nt a_kinds) e) (h0 : e 0 = nt) (hP0 : a_parents 0 = -1) (hP : ∀ k, 0 < k → k < nt → a_parents k = nI (tr_pa e k))
    (hp : ∀ M', (∀ j, j < nt → M' j = cm_m a_kinds a_operands e j) → post (f_tokenCount, f_scriptSize, f_saidPlace, f_activationCount, f_variableCount, f_functionCount, f_generatorCount, f_ending, f_valueSort, f_valueNumber, f_noteCount, f_stepCount, f_latestRun, a_tokenKinds, a_tokenOperands, a_kinds, a_operands, a_parents, a_behind, a_ownFns, M', a_generatorFns, a_frameTokens, a_frameStages, a_frameScopes, a_keptEndings, a_keptSorts, a_keptNumbers, a_frameCounts, a_activeSlots, a_variableBinders, a_variableOuters, a_variableSorts, a_variableNumbers, a_functionTokens, a_functionScopes, a_generatorStates, a_noteSorts, a_noteNumbers)) : wpX_findMeanings post (f_tokenCount, f_scriptSize, f_saidPlace, f_activationCount, f_variableCount, f_functionCount, f_generatorCount, f_ending, f_valueSort, f_valueNumber, f_noteCount, f_stepCount, f_latestRun, a_tokenKinds, a_tokenOperands, a_kinds, a_operands, a_parents, a_behind, a_ownFns, a_meanings, a_generatorFns, a_frameTokens, a_frameStages, a_frameScopes, a_keptEndings, a_keptSorts, a_keptNumbers, a_frameCounts, a_activeSlots, a_variableBinders, a_variableOuters, a_variableSorts, a_variableNumbers, a_functionTokens, a_functionScopes, a_generatorStates, a_noteSorts, a_noteNumbers) :=
  ⟨nt + 1, cx_mean2 hnt et h h0 hP0 hP nt 0 a_meanings (by omega) (fun j hj => absurd hj (Nat.not_lt_zero _)) hp⟩
end
def cm_U (K M : Nat → Int32) (i : Nat) : Prop := (K i = 2 ∨ K i = 3) ∧ M i = -1
def cm_O (K W : Nat → Int32) (il : Nat → Bool) (i : Nat) : Prop := (K i = 22 ∧ W i = -1) ∨ ((K i = 16 ∨ K i = 17) ∧ il i = false)
section
variable {f_tokenCount f_scriptSize f_saidPlace f_activationCount f_variableCount f_functionCount f_generatorCount f_ending f_valueSort : Int32} {f_valueNumber : Int64} {f_noteCount f_stepCount f_latestRun : Int32} {a_tokenKinds a_tokenOperands a_kinds a_operands a_parents a_behind a_ownFns a_meanings a_generatorFns a_frameTokens a_frameStages a_frameScopes a_keptEndings a_keptSorts : Nat → Int32} {a_keptNumbers : Nat → Int64} {a_frameCounts a_activeSlots a_variableBinders a_variableOuters a_variableSorts : Nat → Int32} {a_variableNumbers : Nat → Int64} {a_functionTokens a_functionScopes a_generatorStates a_noteSorts : Nat → Int32} {a_noteNumbers : Nat → Int64}
theorem cx_unb2 {post : Int32 → Prop} {nt : Nat} (hnt : nt ≤ 48) (et : f_tokenCount = nI nt) (h0 : (∀ j, j < nt → ¬ cm_U a_kinds a_meanings j) → post (-1)) (h1 : ∀ i, i < nt → cm_U a_kinds a_meanings i → (∀ j, j < i → ¬ cm_U a_kinds a_meanings j) → post (nI i)) :
    ∀ d i, i + d = nt → (∀ j, j < i → ¬ cm_U a_kinds a_meanings j) → wX_findUnbound_2 post f_tokenCount f_scriptSize f_saidPlace f_activationCount f_variableCount f_functionCount f_generatorCount f_ending f_valueSort f_valueNumber f_noteCount f_stepCount f_latestRun a_tokenKinds a_tokenOperands a_kinds a_operands a_parents a_behind a_ownFns a_meanings a_generatorFns a_frameTokens a_frameStages a_frameScopes a_keptEndings a_keptSorts a_keptNumbers a_frameCounts a_activeSlots a_variableBinders a_variableOuters a_variableSorts a_variableNumbers a_functionTokens a_functionScopes a_generatorStates a_noteSorts a_noteNumbers (d + 1) (nI i) := by
  subst et
  intro d
  induction d with
  | zero =>
    intro i hi hj
    have hi : i = nt := by omega
    subst hi
    exact br_t (nI_le (by omega) (by omega)) (h0 hj)
  | succ d ih =>
    intro i hi hj
    have iv : vp_in (nI i) 48 := vp_in_nI (by omega) (by decide)
    have ei : (nI i).toNatClampNeg = i := nI_clamp (by omega)
    have f30 : (a_kinds i = 2 ∨ a_kinds i = 3) → wX_findUnbound_30 post (wX_findUnbound_2 post (nI nt) f_scriptSize f_saidPlace f_activationCount f_variableCount f_functionCount f_generatorCount f_ending f_valueSort f_valueNumber f_noteCount f_stepCount f_latestRun a_tokenKinds a_tokenOperands a_kinds a_operands a_parents a_behind a_ownFns a_meanings a_generatorFns a_frameTokens a_frameStages a_frameScopes a_keptEndings a_keptSorts a_keptNumbers a_frameCounts a_activeSlots a_variableBinders a_variableOuters a_variableSorts a_variableNumbers a_functionTokens a_functionScopes a_generatorStates a_noteSorts a_noteNumbers (d + 1)) (nI i) (nI nt) f_scriptSize f_saidPlace f_activationCount f_variableCount f_functionCount f_generatorCount f_ending f_valueSort f_valueNumber f_noteCount f_stepCount f_latestRun a_tokenKinds a_tokenOperands a_kinds a_operands a_parents a_behind a_ownFns a_meanings a_generatorFns a_frameTokens a_frameStages a_frameScopes a_keptEndings a_keptSorts a_keptNumbers a_frameCounts a_activeSlots a_variableBinders a_variableOuters a_variableSorts a_variableNumbers a_functionTokens a_functionScopes a_generatorStates a_noteSorts a_noteNumbers := by
      intro c
      refine ⟨iv, ?_⟩
      rw [ei]
      refine br_c (fun z => h1 i (by omega) ⟨c, z⟩ hj) (fun z => nm_r (nI_1 i) (ih (i + 1) (by omega) (fun j hj2 => ?_)))
      by_cases y : j = i
      · subst y
        exact fun q => z q.2
      · exact hj j (by omega)
    refine br_f (nI_ge (by omega) (by omega)) ⟨iv, ?_⟩
    rw [ei]
    refine br_c (fun c2 => f30 (Or.inl c2)) (fun c2 => ⟨iv, br_c (fun c3 => f30 (Or.inr c3)) (fun c3 => nm_r (nI_1 i) (ih (i + 1) (by omega) (fun j hj2 => ?_)))⟩)
    by_cases y : j = i
    · subst y
      exact fun q => by rcases q.1 with q | q; exact c2 q; exact c3 q
    · exact hj j (by omega)
theorem cx_unb {post : Int32 → Prop} {nt : Nat} (hnt : nt ≤ 48) (et : f_tokenCount = nI nt) (h0 : (∀ j, j < nt → ¬ cm_U a_kinds a_meanings j) → post (-1)) (h1 : ∀ i, i < nt → cm_U a_kinds a_meanings i → (∀ j, j < i → ¬ cm_U a_kinds a_meanings j) → post (nI i)) : wpX_findUnbound post (f_tokenCount, f_scriptSize, f_saidPlace, f_activationCount, f_variableCount, f_functionCount, f_generatorCount, f_ending, f_valueSort, f_valueNumber, f_noteCount, f_stepCount, f_latestRun, a_tokenKinds, a_tokenOperands, a_kinds, a_operands, a_parents, a_behind, a_ownFns, a_meanings, a_generatorFns, a_frameTokens, a_frameStages, a_frameScopes, a_keptEndings, a_keptSorts, a_keptNumbers, a_frameCounts, a_activeSlots, a_variableBinders, a_variableOuters, a_variableSorts, a_variableNumbers, a_functionTokens, a_functionScopes, a_generatorStates, a_noteSorts, a_noteNumbers) :=
  ⟨nt + 1, cx_unb2 hnt et h0 h1 nt 0 (by omega) (fun j hj => absurd hj (Nat.not_lt_zero _))⟩
theorem cx_il {post : Int32 → Prop} {nt : Nat} {e : Nat → Nat} (hnt : nt ≤ 48) (h : tr_T (gs_o nt a_kinds) e) (h0 : e 0 = nt) (hP0 : a_parents 0 = -1) (hP : ∀ k, 0 < k → k < nt → a_parents k = nI (tr_pa e k)) :
    ∀ n k m, k < nt → m + k < 48 → k < n → post (if gs_il a_kinds e k = true then 1 else 0) → wX_standsInLoop_12 post f_tokenCount f_scriptSize f_saidPlace f_activationCount f_variableCount f_functionCount f_generatorCount f_ending f_valueSort f_valueNumber f_noteCount f_stepCount f_latestRun a_tokenKinds a_tokenOperands a_kinds a_operands a_parents a_behind a_ownFns a_meanings a_generatorFns a_frameTokens a_frameStages a_frameScopes a_keptEndings a_keptSorts a_keptNumbers a_frameCounts a_activeSlots a_variableBinders a_variableOuters a_variableSorts a_variableNumbers a_functionTokens a_functionScopes a_generatorStates a_noteSorts a_noteNumbers n (nI k) (a_parents k) (nI m) := by
  intro n
  induction n with
  | zero => intro k m _ _ hn; omega
  | succ n ih =>
    intro k m hk hm hn hp
    refine br_f (nI_ge (b := 48) (by omega) (by decide)) ?_
    by_cases z : k = 0
    · subst z
      rw [hP0]
      exact br_t (by decide) hp
    · have hp2 := tr_pk h (gs_o3 nt a_kinds) (show 0 < k by omega) (by omega)
      have hil := gs_ilp (K := a_kinds) h (gs_o3 nt a_kinds) (show 0 < k by omega) (by omega)
      have hbd := (cm_bd h (show 0 < k by omega) (by omega) h0).2
      rw [hP k (by omega) hk]
      have ivp : vp_in (nI (tr_pa e k)) 48 := vp_in_nI (by omega) (by decide)
      have ep : (nI (tr_pa e k)).toNatClampNeg = tr_pa e k := nI_clamp (by omega)
      have f53 : post (if gs_il a_kinds e (tr_pa e k) = true then 1 else 0) → wX_standsInLoop_53 post (wX_standsInLoop_12 post f_tokenCount f_scriptSize f_saidPlace f_activationCount f_variableCount f_functionCount f_generatorCount f_ending f_valueSort f_valueNumber f_noteCount f_stepCount f_latestRun a_tokenKinds a_tokenOperands a_kinds a_operands a_parents a_behind a_ownFns a_meanings a_generatorFns a_frameTokens a_frameStages a_frameScopes a_keptEndings a_keptSorts a_keptNumbers a_frameCounts a_activeSlots a_variableBinders a_variableOuters a_variableSorts a_variableNumbers a_functionTokens a_functionScopes a_generatorStates a_noteSorts a_noteNumbers n) (nI (tr_pa e k)) (nI m) f_tokenCount f_scriptSize f_saidPlace f_activationCount f_variableCount f_functionCount f_generatorCount f_ending f_valueSort f_valueNumber f_noteCount f_stepCount f_latestRun a_tokenKinds a_tokenOperands a_kinds a_operands a_parents a_behind a_ownFns a_meanings a_generatorFns a_frameTokens a_frameStages a_frameScopes a_keptEndings a_keptSorts a_keptNumbers a_frameCounts a_activeSlots a_variableBinders a_variableOuters a_variableSorts a_variableNumbers a_functionTokens a_functionScopes a_generatorStates a_noteSorts a_noteNumbers := by
        intro hq
        exact ⟨ivp, nm_r (e' := a_parents (tr_pa e k)) (by rw [ep]) (nm_r (nI_1 m) (ih _ _ (by omega) (by omega) (by omega) hq))⟩
      refine br_f (nI_pos (by omega)) ⟨ivp, ?_⟩
      rw [ep]
      refine br_c (fun c5 => ?_) (fun c5 => ⟨ivp, br_c (fun c14 => ?_) (fun c14 => ?_)⟩)
      · rw [if_pos c5] at hil
        rw [hil] at hp
        exact hp
      · by_cases y : k = tr_pa e k + 1
        · rw [if_neg c5, if_neg (fun q => (hbd c14).mp q.2 y)] at hil
          rw [hil] at hp
          refine br_t ?_ (f53 hp)
          rw [nI_1, ← y]
        · rw [if_neg c5, if_pos ⟨c14, (hbd c14).mpr y⟩] at hil
          rw [hil] at hp
          refine br_f ?_ hp
          rw [nI_1, nI_eq (by omega) (by omega)]
          exact y
      · rw [if_neg c5, if_neg (fun q => c14 q.1)] at hil
        rw [hil] at hp
        exact f53 hp
theorem cx_out2 {post : Int32 → Prop} {nt : Nat} {e : Nat → Nat} (hnt : nt ≤ 48) (et : f_tokenCount = nI nt) (h : tr_T (gs_o nt a_kinds) e) (he : e 0 = nt) (hP0 : a_parents 0 = -1) (hP : ∀ k, 0 < k → k < nt → a_parents k = nI (tr_pa e k))
    (h0 : (∀ j, j < nt → ¬ cm_O a_kinds a_ownFns (gs_il a_kinds e) j) → post (-1)) (h1 : ∀ i, i < nt → cm_O a_kinds a_ownFns (gs_il a_kinds e) i → (∀ j, j < i → ¬ cm_O a_kinds a_ownFns (gs_il a_kinds e) j) → post (nI i)) :
    ∀ d i, i + d = nt → (∀ j, j < i → ¬ cm_O a_kinds a_ownFns (gs_il a_kinds e) j) → wX_findOutside_2 post f_tokenCount f_scriptSize f_saidPlace f_activationCount f_variableCount f_functionCount f_generatorCount f_ending f_valueSort f_valueNumber f_noteCount f_stepCount f_latestRun a_tokenKinds a_tokenOperands a_kinds a_operands a_parents a_behind a_ownFns a_meanings a_generatorFns a_frameTokens a_frameStages a_frameScopes a_keptEndings a_keptSorts a_keptNumbers a_frameCounts a_activeSlots a_variableBinders a_variableOuters a_variableSorts a_variableNumbers a_functionTokens a_functionScopes a_generatorStates a_noteSorts a_noteNumbers (d + 1) (nI i) := by
  subst et
  intro d
  induction d with
  | zero =>
    intro i hi hj
    have hi : i = nt := by omega
    subst hi
    exact br_t (nI_le (by omega) (by omega)) (h0 hj)
  | succ d ih =>
    intro i hi hj
    have iv : vp_in (nI i) 48 := vp_in_nI (by omega) (by decide)
    have ei : (nI i).toNatClampNeg = i := nI_clamp (by omega)
    have next : ¬ cm_O a_kinds a_ownFns (gs_il a_kinds e) i → ∀ j, j < i + 1 → ¬ cm_O a_kinds a_ownFns (gs_il a_kinds e) j := by
      intro q j hj2
      by_cases y : j = i
      · subst y
        exact q
      · exact hj j (by omega)
    have f55 : ¬ (a_kinds i = 22 ∧ a_ownFns i = -1) → (a_kinds i = 16 ∨ a_kinds i = 17) → wX_findOutside_55 post (wX_findOutside_2 post (nI nt) f_scriptSize f_saidPlace f_activationCount f_variableCount f_functionCount f_generatorCount f_ending f_valueSort f_valueNumber f_noteCount f_stepCount f_latestRun a_tokenKinds a_tokenOperands a_kinds a_operands a_parents a_behind a_ownFns a_meanings a_generatorFns a_frameTokens a_frameStages a_frameScopes a_keptEndings a_keptSorts a_keptNumbers a_frameCounts a_activeSlots a_variableBinders a_variableOuters a_variableSorts a_variableNumbers a_functionTokens a_functionScopes a_generatorStates a_noteSorts a_noteNumbers (d + 1)) (nI i) (nI nt) f_scriptSize f_saidPlace f_activationCount f_variableCount f_functionCount f_generatorCount f_ending f_valueSort f_valueNumber f_noteCount f_stepCount f_latestRun a_tokenKinds a_tokenOperands a_kinds a_operands a_parents a_behind a_ownFns a_meanings a_generatorFns a_frameTokens a_frameStages a_frameScopes a_keptEndings a_keptSorts a_keptNumbers a_frameCounts a_activeSlots a_variableBinders a_variableOuters a_variableSorts a_variableNumbers a_functionTokens a_functionScopes a_generatorStates a_noteSorts a_noteNumbers := by
      intro n22 c
      refine ⟨iv, nm_r (e' := a_parents i) (by rw [ei]) ⟨i + 1, ?_⟩⟩
      refine cx_il hnt h he hP0 hP (i + 1) i 0 (by omega) (by omega) (by omega) ?_
      by_cases z : gs_il a_kinds e i = true
      · rw [if_pos z]
        refine br_f (by decide) (nm_r (nI_1 i) (ih (i + 1) (by omega) (next ?_)))
        rintro (q | q)
        · exact n22 q
        · rw [z] at q
          exact absurd q.2 (by decide)
      · rw [if_neg z]
        refine br_t rfl (h1 i (by omega) (Or.inr ⟨c, ?_⟩) hj)
        cases hb : gs_il a_kinds e i
        · rfl
        · exact absurd hb z
    have f33 : ¬ (a_kinds i = 22 ∧ a_ownFns i = -1) → wX_findOutside_33 post (wX_findOutside_2 post (nI nt) f_scriptSize f_saidPlace f_activationCount f_variableCount f_functionCount f_generatorCount f_ending f_valueSort f_valueNumber f_noteCount f_stepCount f_latestRun a_tokenKinds a_tokenOperands a_kinds a_operands a_parents a_behind a_ownFns a_meanings a_generatorFns a_frameTokens a_frameStages a_frameScopes a_keptEndings a_keptSorts a_keptNumbers a_frameCounts a_activeSlots a_variableBinders a_variableOuters a_variableSorts a_variableNumbers a_functionTokens a_functionScopes a_generatorStates a_noteSorts a_noteNumbers (d + 1)) (nI i) (nI nt) f_scriptSize f_saidPlace f_activationCount f_variableCount f_functionCount f_generatorCount f_ending f_valueSort f_valueNumber f_noteCount f_stepCount f_latestRun a_tokenKinds a_tokenOperands a_kinds a_operands a_parents a_behind a_ownFns a_meanings a_generatorFns a_frameTokens a_frameStages a_frameScopes a_keptEndings a_keptSorts a_keptNumbers a_frameCounts a_activeSlots a_variableBinders a_variableOuters a_variableSorts a_variableNumbers a_functionTokens a_functionScopes a_generatorStates a_noteSorts a_noteNumbers := by
      intro n22
      refine ⟨iv, ?_⟩
      rw [ei]
      refine br_c (fun c => f55 n22 (Or.inl c)) (fun c16 => ⟨iv, br_c (fun c => f55 n22 (Or.inr c)) (fun c17 => nm_r (nI_1 i) (ih (i + 1) (by omega) (next ?_)))⟩)
      rintro (q | q)
      · exact n22 q
      · rcases q.1 with y | y
        · exact c16 y
        · exact c17 y
    refine br_f (nI_ge (by omega) (by omega)) ⟨iv, ?_⟩
    rw [ei]
    refine br_c (fun c => ⟨iv, br_c (fun z => h1 i (by omega) (Or.inl ⟨c, z⟩) hj) (fun z => f33 (fun q => z q.2))⟩) (fun c => f33 (fun q => c q.1))
theorem cx_out {post : Int32 → Prop} {nt : Nat} {e : Nat → Nat} (hnt : nt ≤ 48) (et : f_tokenCount = nI nt) (h : tr_T (gs_o nt a_kinds) e) (he : e 0 = nt) (hP0 : a_parents 0 = -1) (hP : ∀ k, 0 < k → k < nt → a_parents k = nI (tr_pa e k))
    (h0 : (∀ j, j < nt → ¬ cm_O a_kinds a_ownFns (gs_il a_kinds e) j) → post (-1)) (h1 : ∀ i, i < nt → cm_O a_kinds a_ownFns (gs_il a_kinds e) i → (∀ j, j < i → ¬ cm_O a_kinds a_ownFns (gs_il a_kinds e) j) → post (nI i)) : wpX_findOutside post (f_tokenCount, f_scriptSize, f_saidPlace, f_activationCount, f_variableCount, f_functionCount, f_generatorCount, f_ending, f_valueSort, f_valueNumber, f_noteCount, f_stepCount, f_latestRun, a_tokenKinds, a_tokenOperands, a_kinds, a_operands, a_parents, a_behind, a_ownFns, a_meanings, a_generatorFns, a_frameTokens, a_frameStages, a_frameScopes, a_keptEndings, a_keptSorts, a_keptNumbers, a_frameCounts, a_activeSlots, a_variableBinders, a_variableOuters, a_variableSorts, a_variableNumbers, a_functionTokens, a_functionScopes, a_generatorStates, a_noteSorts, a_noteNumbers) :=
  ⟨nt + 1, cx_out2 hnt et h he hP0 hP h0 h1 nt 0 (by omega) (fun j hj => absurd hj (Nat.not_lt_zero _))⟩
end
end
section
def cy_L (op : Nat → Int32) : List Nat → Prop
  | [] => True
  | u :: L => op L.length = nI u ∧ (∀ v, v ∈ L → v < u) ∧ cy_L op L
theorem cy_Lc {op op' : Nat → Int32} : ∀ L, (∀ j, j < L.length → op' j = op j) → cy_L op L → cy_L op' L := by
  intro L
  induction L with
  | nil => exact fun _ _ => trivial
  | cons u L ih =>
    intro h hL
    refine ⟨?_, hL.2.1, ih (fun j hj => h j (by show j < L.length + 1; omega)) hL.2.2⟩
    rw [h L.length (by show L.length < L.length + 1; omega)]
    exact hL.1
theorem cy_Li {op : Nat → Int32} : ∀ L, cy_L op L → ∀ k, k < L.length → ∃ u, u ∈ L ∧ op k = nI u := by
  intro L
  induction L with
  | nil => intro _ k hk; exact absurd hk (Nat.not_lt_zero _)
  | cons u L ih =>
    intro hL k hk
    have hk2 : k < L.length + 1 := hk
    by_cases z : k = L.length
    · subst z
      exact ⟨u, List.mem_cons_self .., hL.1⟩
    · obtain ⟨v, hv, e⟩ := ih hL.2.2 k (by omega)
      exact ⟨v, List.mem_cons_of_mem _ hv, e⟩
theorem cy_Lk {op : Nat → Int32} : ∀ L, cy_L op L → ∀ u, u ∈ L → ∃ k, k < L.length ∧ op k = nI u := by
  intro L
  induction L with
  | nil => intro _ u hu; cases hu
  | cons v L ih =>
    intro hL u hu
    rcases List.mem_cons.mp hu with z | z
    · subst z
      exact ⟨L.length, Nat.lt_succ_self _, hL.1⟩
    · obtain ⟨k, hk, e⟩ := ih hL.2.2 u z
      exact ⟨k, Nat.lt_succ_of_lt hk, e⟩
theorem cy_Ln {op : Nat → Int32} {i : Nat} : ∀ L, cy_L op L → (∀ u, u ∈ L → u < i) → L.length ≤ i := by
  intro L
  induction L generalizing i with
  | nil => intro _ _; exact Nat.zero_le _
  | cons u L ih =>
    intro hL h
    have h1 := ih (i := u) hL.2.2 hL.2.1
    have h2 := h u (List.mem_cons_self ..)
    show L.length + 1 ≤ i
    omega
def cy_I (nt : Nat) (K : Nat → Int32) (e : Nat → Nat) (i : Nat) (ab as pt : Nat → Int32) : Prop :=
  (0 < i → ab 0 = -1) ∧ (∀ j, 0 < j → j < i → ab j = nI (tr_pa e j) ∧ as j = nI (tr_ix e j)) ∧
  (∀ p j, p < i → j < gs_o nt K p → (tr_c e p j < i → pt (3 * p + j) = nI (tr_c e p j)) ∧ (i ≤ tr_c e p j → pt (3 * p + j) = -1))
section
variable {f_drafted f_length f_place f_there f_chains f_functions f_generators f_active f_begins f_token f_chain f_how f_sort : Int32} {f_value : Int64} {f_steps f_endSort f_status : Int32} {f_endNumber : Int64} {f_over f_noted : Int32} {a_draftKind a_draftWith a_kind a_with a_above a_as a_part a_open a_means a_own a_yields a_binder a_outer a_holdsSort : Nat → Int32} {a_holds : Nat → Int64} {a_fnToken a_fnChain a_state a_gBody a_gChain a_gYield a_closing a_rowOf a_many a_wToken a_wOperand a_wChain a_wSort a_wHow : Nat → Int32} {a_wValue : Nat → Int64} {a_noteSort : Nat → Int32} {a_noteNumber : Nat → Int64}
theorem cy_lk2 {post : Int32 → Prop} {u m k : Nat} (hu : u < 48) (hk27 : k < 27) (hk : a_kind u = nI k) (hm : m ≤ gw_op (nI k)) (h1 : ∀ j, j < m → ∃ q, q < 2 ^ 31 ∧ a_part (3 * u + j) = nI q) (h2 : ∀ j, m ≤ j → j < gw_op (nI k) → a_part (3 * u + j) = -1)
    (hp : post (nI (gw_op (nI k) - m))) : ∀ d j, j + d = gw_op (nI k) → wY_lacks_4 post (nI u) f_drafted f_length f_place f_there f_chains f_functions f_generators f_active f_begins f_token f_chain f_how f_sort f_value f_steps f_endSort f_status f_endNumber f_over f_noted a_draftKind a_draftWith a_kind a_with a_above a_as a_part a_open a_means a_own a_yields a_binder a_outer a_holdsSort a_holds a_fnToken a_fnChain a_state a_gBody a_gChain a_gYield a_closing a_rowOf a_many a_wToken a_wOperand a_wChain a_wSort a_wHow a_wValue a_noteSort a_noteNumber (d + 1) (nI (j - m)) (nI j) := by
  have iv : vp_in (nI u) 48 := vp_in_nI hu (by decide)
  have eu : (nI u).toNatClampNeg = u := nI_clamp (by omega)
  have o3 := gs_op3 (nI k)
  intro d
  induction d with
  | zero =>
    intro j hj
    refine ⟨iv, ?_⟩
    rw [eu, hk]
    have hj : j = gw_op (nI k) := by omega
    subst hj
    exact ym_ops k hk27 (br_t (nI_le (Nat.le_refl _) (by omega)) hp)
  | succ d ih =>
    intro j hj
    refine ⟨iv, ?_⟩
    rw [eu, hk]
    have e3 : (3 : Int32) * nI u + nI j = nI (3 * u + j) := by rw [show (3 : Int32) = nI 3 from rfl, pk_mul, nI_add]
    refine ym_ops k hk27 (br_f (nI_ge (by omega) (by omega)) ?_)
    rw [e3]
    refine ⟨vp_in_nI (by omega) (by decide), ?_⟩
    rw [nI_clamp (by omega)]
    by_cases z : j < m
    · obtain ⟨q, hq, e⟩ := h1 j z
      refine br_t (by rw [e]; exact nI_pos' hq) (nm_r (nI_1 j) ?_)
      have := ih (j + 1) (by omega)
      rw [show j + 1 - m = j - m by omega] at this
      exact this
    · refine br_f (by rw [h2 j (by omega) (by omega)]; decide) (nm_r (nI_1 (j - m)) (nm_r (nI_1 j) ?_))
      have := ih (j + 1) (by omega)
      rw [show j + 1 - m = j - m + 1 by omega] at this
      exact this
theorem cy_lk {post : Int32 → Prop} {u m k : Nat} (hu : u < 48) (hk27 : k < 27) (hk : a_kind u = nI k) (hm : m ≤ gw_op (nI k)) (h1 : ∀ j, j < m → ∃ q, q < 2 ^ 31 ∧ a_part (3 * u + j) = nI q) (h2 : ∀ j, m ≤ j → j < gw_op (nI k) → a_part (3 * u + j) = -1)
    (hp : post (nI (gw_op (nI k) - m))) : wpY_lacks post (f_drafted, f_length, f_place, f_there, f_chains, f_functions, f_generators, f_active, f_begins, f_token, f_chain, f_how, f_sort, f_value, f_steps, f_endSort, f_status, f_endNumber, f_over, f_noted, a_draftKind, a_draftWith, a_kind, a_with, a_above, a_as, a_part, a_open, a_means, a_own, a_yields, a_binder, a_outer, a_holdsSort, a_holds, a_fnToken, a_fnChain, a_state, a_gBody, a_gChain, a_gYield, a_closing, a_rowOf, a_many, a_wToken, a_wOperand, a_wChain, a_wSort, a_wHow, a_wValue, a_noteSort, a_noteNumber) (nI u) := by
  have key : wY_lacks_4 post (nI u) f_drafted f_length f_place f_there f_chains f_functions f_generators f_active f_begins f_token f_chain f_how f_sort f_value f_steps f_endSort f_status f_endNumber f_over f_noted a_draftKind a_draftWith a_kind a_with a_above a_as a_part a_open a_means a_own a_yields a_binder a_outer a_holdsSort a_holds a_fnToken a_fnChain a_state a_gBody a_gChain a_gYield a_closing a_rowOf a_many a_wToken a_wOperand a_wChain a_wSort a_wHow a_wValue a_noteSort a_noteNumber (gw_op (nI k) + 1) (nI (0 - m)) (nI 0) := cy_lk2 hu hk27 hk hm h1 h2 hp (gw_op (nI k)) 0 (by omega)
  rw [Nat.zero_sub] at key
  exact ⟨_, key⟩
theorem cy_136 {post : Int32 → SY → Prop} (J : Int32 → Int32 → (Nat → Int32) → (Nat → Int32) → (Nat → Int32) → (Nat → Int32) → (Nat → Int32) → (Nat → Int32) → (Nat → Int32) → (Nat → Int32) → (Nat → Int32) → (Nat → Int32) → (Nat → Int32) → (Nat → Int32) → (Nat → Int32) → (Nat → Int32) → (Nat → Int64) → (Nat → Int32) → (Nat → Int32) → (Nat → Int32) → (Nat → Int32) → (Nat → Int32) → (Nat → Int32) → (Nat → Int32) → (Nat → Int32) → (Nat → Int32) → (Nat → Int32) → (Nat → Int32) → (Nat → Int32) → (Nat → Int32) → (Nat → Int32) → (Nat → Int64) → (Nat → Int32) → (Nat → Int64) → Prop) {l i : Nat} (hl : l < 49) (hp : J (nI (l + 1)) (nI (i + 1)) a_draftKind a_draftWith a_kind a_with a_above a_as a_part (upd a_open l (nI i)) a_means a_own a_yields a_binder a_outer a_holdsSort a_holds a_fnToken a_fnChain a_state a_gBody a_gChain a_gYield a_closing a_rowOf a_many a_wToken a_wOperand a_wChain a_wSort a_wHow a_wValue a_noteSort a_noteNumber) : wY_shape_136 post J (nI l) (nI i) f_drafted f_length f_place f_there f_chains f_functions f_generators f_active f_begins f_token f_chain f_how f_sort f_value f_steps f_endSort f_status f_endNumber f_over f_noted a_draftKind a_draftWith a_kind a_with a_above a_as a_part a_open a_means a_own a_yields a_binder a_outer a_holdsSort a_holds a_fnToken a_fnChain a_state a_gBody a_gChain a_gYield a_closing a_rowOf a_many a_wToken a_wOperand a_wChain a_wSort a_wHow a_wValue a_noteSort a_noteNumber :=
  nm_r (nI_1 l) ⟨vp_in_nI hl (by decide), nm_r (by rw [nI_clamp (by omega)]) (nm_r (nI_1 i) hp)⟩
end
section
variable {f_drafted f_length f_place f_there f_chains f_functions f_generators f_active f_begins f_token f_chain f_how f_sort : Int32} {f_value : Int64} {f_steps f_endSort f_status : Int32} {f_endNumber : Int64} {f_over f_noted : Int32} {a_draftKind a_draftWith a_kind a_with a_above a_as a_part a_open a_means a_own a_yields a_binder a_outer a_holdsSort : Nat → Int32} {a_holds : Nat → Int64} {a_fnToken a_fnChain a_state a_gBody a_gChain a_gYield a_closing a_rowOf a_many a_wToken a_wOperand a_wChain a_wSort a_wHow : Nat → Int32} {a_wValue : Nat → Int64} {a_noteSort : Nat → Int32} {a_noteNumber : Nat → Int64}
theorem cy_96 {post : Int32 → SY → Prop} (J : Int32 → Int32 → (Nat → Int32) → (Nat → Int32) → (Nat → Int32) → (Nat → Int32) → (Nat → Int32) → (Nat → Int32) → (Nat → Int32) → (Nat → Int32) → (Nat → Int32) → (Nat → Int32) → (Nat → Int32) → (Nat → Int32) → (Nat → Int32) → (Nat → Int32) → (Nat → Int64) → (Nat → Int32) → (Nat → Int32) → (Nat → Int32) → (Nat → Int32) → (Nat → Int32) → (Nat → Int32) → (Nat → Int32) → (Nat → Int32) → (Nat → Int32) → (Nat → Int32) → (Nat → Int32) → (Nat → Int32) → (Nat → Int32) → (Nat → Int32) → (Nat → Int64) → (Nat → Int32) → (Nat → Int64) → Prop) {l i : Nat} {x3 x4 : Int32} (hi : i < 48)
    (hp : ((x3 < 0 → wY_shape_136 post J (nI l) (nI i) f_drafted f_length f_place f_there f_chains f_functions f_generators f_active f_begins f_token f_chain f_how f_sort f_value f_steps f_endSort f_status f_endNumber f_over f_noted a_draftKind a_draftWith a_kind a_with a_above a_as (upd (upd (upd a_part (3 * i) (-1)) (3 * i + 1) (-1)) (3 * i + 2) (-1)) a_open a_means a_own a_yields a_binder a_outer a_holdsSort a_holds a_fnToken a_fnChain a_state a_gBody a_gChain a_gYield a_closing a_rowOf a_many a_wToken a_wOperand a_wChain a_wSort a_wHow a_wValue a_noteSort a_noteNumber) ∧
      (¬ x3 < 0 → (vp_in ((3 * x3) + x4) 144 ∧ ∀ y : Nat → Int32, y = upd (upd (upd (upd a_part (3 * i) (-1)) (3 * i + 1) (-1)) (3 * i + 2) (-1)) ((3 * x3) + x4).toNatClampNeg (nI i) → wY_shape_136 post J (nI l) (nI i) f_drafted f_length f_place f_there f_chains f_functions f_generators f_active f_begins f_token f_chain f_how f_sort f_value f_steps f_endSort f_status f_endNumber f_over f_noted a_draftKind a_draftWith a_kind a_with a_above a_as y a_open a_means a_own a_yields a_binder a_outer a_holdsSort a_holds a_fnToken a_fnChain a_state a_gBody a_gChain a_gYield a_closing a_rowOf a_many a_wToken a_wOperand a_wChain a_wSort a_wHow a_wValue a_noteSort a_noteNumber)))) :
    wY_shape_96 post J (nI l) (nI i) x3 x4 f_drafted f_length f_place f_there f_chains f_functions f_generators f_active f_begins f_token f_chain f_how f_sort f_value f_steps f_endSort f_status f_endNumber f_over f_noted 4 0 a_draftKind a_draftWith a_kind a_with a_above a_as a_part a_open a_means a_own a_yields a_binder a_outer a_holdsSort a_holds a_fnToken a_fnChain a_state a_gBody a_gChain a_gYield a_closing a_rowOf a_many a_wToken a_wOperand a_wChain a_wSort a_wHow a_wValue a_noteSort a_noteNumber := by
  have e0 : (3 : Int32) * nI i + 0 = nI (3 * i) := by rw [show (3 : Int32) = nI 3 from rfl, pk_mul, Int32.add_zero]
  have e1 : (3 : Int32) * nI i + 1 = nI (3 * i + 1) := by rw [show (3 : Int32) = nI 3 from rfl, pk_mul, nI_1]
  have e2 : (3 : Int32) * nI i + 2 = nI (3 * i + 2) := by rw [show (3 : Int32) = nI 3 from rfl, show (2 : Int32) = nI 2 from rfl, pk_mul, nI_add]
  refine br_f (by decide) ⟨by rw [e0]; exact vp_in_nI (by omega) (by decide), nm_r (e' := upd a_part (3 * i) (-1)) (by rw [e0, nI_clamp (by omega)]) (nm_r (e' := 1) (by decide) ?_)⟩
  refine br_f (by decide) ⟨by rw [e1]; exact vp_in_nI (by omega) (by decide), nm_r (e' := upd (upd a_part (3 * i) (-1)) (3 * i + 1) (-1)) (by rw [e1, nI_clamp (by omega)]) (nm_r (e' := 2) (by decide) ?_)⟩
  refine br_f (by decide) ⟨by rw [e2]; exact vp_in_nI (by omega) (by decide), nm_r (e' := upd (upd (upd a_part (3 * i) (-1)) (3 * i + 1) (-1)) (3 * i + 2) (-1)) (by rw [e2, nI_clamp (by omega)]) (nm_r (e' := 3) (by decide) ?_)⟩
  exact br_t (by decide) hp
end
theorem cy_p3 {pt : Nat → Int32} {i q : Nat} (h : q < 3 * i ∨ 3 * i + 3 ≤ q) : upd (upd (upd pt (3 * i) (-1)) (3 * i + 1) (-1)) (3 * i + 2) (-1) q = pt q := by
  rw [pk_un (by omega), pk_un (by omega), pk_un (by omega)]
theorem cy_p3i {pt : Nat → Int32} {i j : Nat} (h : j < 3) : upd (upd (upd pt (3 * i) (-1)) (3 * i + 1) (-1)) (3 * i + 2) (-1) (3 * i + j) = -1 := by
  have : j = 0 ∨ j = 1 ∨ j = 2 := by omega
  rcases this with rfl | rfl | rfl
  · rw [pk_un (by omega), pk_un (by omega)]
    exact pk_us
  · rw [pk_un (by omega)]
    exact pk_us
  · exact pk_us
section
variable {f_drafted f_length f_place f_there f_chains f_functions f_generators f_active f_begins f_token f_chain f_how f_sort : Int32} {f_value : Int64} {f_steps f_endSort f_status : Int32} {f_endNumber : Int64} {f_over f_noted : Int32} {a_draftKind a_draftWith a_kind a_with a_above a_as a_part a_open a_means a_own a_yields a_binder a_outer a_holdsSort : Nat → Int32} {a_holds : Nat → Int64} {a_fnToken a_fnChain a_state a_gBody a_gChain a_gYield a_closing a_rowOf a_many a_wToken a_wOperand a_wChain a_wSort a_wHow : Nat → Int32} {a_wValue : Nat → Int64} {a_noteSort : Nat → Int32} {a_noteNumber : Nat → Int64}
variable {nt : Nat} {e : Nat → Nat}
theorem cy_lko {post : Int32 → Prop} {i u m : Nat} (hnt : nt ≤ 48) (hi : i ≤ nt) (hkd : ∀ i, i < nt → ∃ k, k < 27 ∧ a_kind i = nI k) (h : tr_T (gs_o nt a_kind) e) (hI : cy_I nt a_kind e i a_above a_as a_part) (hu : u < i) (hm : m ≤ gs_o nt a_kind u)
    (h1 : ∀ j, j < m → tr_c e u j < i) (h2 : ∀ j, m ≤ j → j < gs_o nt a_kind u → i ≤ tr_c e u j) (hp : post (nI (gs_o nt a_kind u - m))) : wpY_lacks post (f_drafted, f_length, f_place, f_there, f_chains, f_functions, f_generators, f_active, f_begins, f_token, f_chain, f_how, f_sort, f_value, f_steps, f_endSort, f_status, f_endNumber, f_over, f_noted, a_draftKind, a_draftWith, a_kind, a_with, a_above, a_as, a_part, a_open, a_means, a_own, a_yields, a_binder, a_outer, a_holdsSort, a_holds, a_fnToken, a_fnChain, a_state, a_gBody, a_gChain, a_gYield, a_closing, a_rowOf, a_many, a_wToken, a_wOperand, a_wChain, a_wSort, a_wHow, a_wValue, a_noteSort, a_noteNumber) (nI u) := by
  obtain ⟨k, hk27, hk⟩ := hkd u (by omega)
  have ho := gs_oi nt a_kind u (by omega)
  rw [hk] at ho
  rw [ho] at hp hm
  refine cy_lk (by omega) hk27 hk hm (fun j hj => ⟨tr_c e u j, by have := h1 j hj; omega, (hI.2.2 u j hu (by omega)).1 (h1 j hj)⟩) (fun j hj1 hj2 => (hI.2.2 u j hu (by omega)).2 (h2 j hj1 (by omega))) hp
theorem cy_lk0 {post : Int32 → Prop} {i u : Nat} (hnt : nt ≤ 48) (hi : i ≤ nt) (hkd : ∀ i, i < nt → ∃ k, k < 27 ∧ a_kind i = nI k) (h : tr_T (gs_o nt a_kind) e) (hI : cy_I nt a_kind e i a_above a_as a_part) (hu : u < i) (he : e u ≤ i) (hp : post 0) : wpY_lacks post (f_drafted, f_length, f_place, f_there, f_chains, f_functions, f_generators, f_active, f_begins, f_token, f_chain, f_how, f_sort, f_value, f_steps, f_endSort, f_status, f_endNumber, f_over, f_noted, a_draftKind, a_draftWith, a_kind, a_with, a_above, a_as, a_part, a_open, a_means, a_own, a_yields, a_binder, a_outer, a_holdsSort, a_holds, a_fnToken, a_fnChain, a_state, a_gBody, a_gChain, a_gYield, a_closing, a_rowOf, a_many, a_wToken, a_wOperand, a_wChain, a_wSort, a_wHow, a_wValue, a_noteSort, a_noteNumber) (nI u) := by
  refine cy_lko hnt hi hkd h hI hu (Nat.le_refl _) (fun j hj => ?_) (fun j h1 h2 => by omega) (by rw [Nat.sub_self]; exact hp)
  have := (tr_cin h hj).2
  omega
theorem cy_par {i u : Nat} {L : List Nat} (h : tr_T (gs_o nt a_kind) e) (hu : u < i) (hd : ∀ v, v ∈ L → v < u) (hc : ∀ v, v < i → i < e v → v ∈ u :: L) (he : i < e u) : tr_pa e i = u ∧ tr_ix e i < gs_o nt a_kind u ∧ tr_c e u (tr_ix e i) = i := by
  obtain ⟨p, j, hp, hj, hcj⟩ := tr_par h _ u i (Nat.le_refl _) hu he
  have hpa := tr_pac h hj
  have hix := tr_ixc h hj (gs_o3 nt a_kind p)
  rw [hcj] at hpa hix
  have hin := tr_cin h hj
  rw [hcj] at hin
  have hpu : p = u := by
    rcases List.mem_cons.mp (hc p hin.1 hin.2) with z | z
    · exact z
    · have := hd p z
      omega
  subst hpu
  rw [hpa, hix]
  exact ⟨rfl, hj, hcj⟩
end
section
variable {f_drafted f_length f_place f_there f_chains f_functions f_generators f_active f_begins f_token f_chain f_how f_sort : Int32} {f_value : Int64} {f_steps f_endSort f_status : Int32} {f_endNumber : Int64} {f_over f_noted : Int32} {a_draftKind a_draftWith a_kind a_with a_above a_as a_part a_open a_means a_own a_yields a_binder a_outer a_holdsSort : Nat → Int32} {a_holds : Nat → Int64} {a_fnToken a_fnChain a_state a_gBody a_gChain a_gYield a_closing a_rowOf a_many a_wToken a_wOperand a_wChain a_wSort a_wHow : Nat → Int32} {a_wValue : Nat → Int64} {a_noteSort : Nat → Int32} {a_noteNumber : Nat → Int64}
variable {nt : Nat} {e : Nat → Nat}
theorem cy_pop {post : Int32 → SY → Prop} (J : Int32 → Int32 → (Nat → Int32) → (Nat → Int32) → (Nat → Int32) → (Nat → Int32) → (Nat → Int32) → (Nat → Int32) → (Nat → Int32) → (Nat → Int32) → (Nat → Int32) → (Nat → Int32) → (Nat → Int32) → (Nat → Int32) → (Nat → Int32) → (Nat → Int32) → (Nat → Int64) → (Nat → Int32) → (Nat → Int32) → (Nat → Int32) → (Nat → Int32) → (Nat → Int32) → (Nat → Int32) → (Nat → Int32) → (Nat → Int32) → (Nat → Int32) → (Nat → Int32) → (Nat → Int32) → (Nat → Int32) → (Nat → Int32) → (Nat → Int32) → (Nat → Int64) → (Nat → Int32) → (Nat → Int64) → Prop) {i : Nat} (hnt : nt ≤ 48) (hi0 : 0 < i) (hi : i < nt) (hie : i ≤ e 0) (hkd : ∀ i, i < nt → ∃ k, k < 27 ∧ a_kind i = nI k) (h : tr_T (gs_o nt a_kind) e) (hI : cy_I nt a_kind e i a_above a_as a_part)
    (hret : e 0 = i → post (nI i) (f_drafted, f_length, f_place, f_there, f_chains, f_functions, f_generators, f_active, f_begins, f_token, f_chain, f_how, f_sort, f_value, f_steps, f_endSort, f_status, f_endNumber, f_over, f_noted, a_draftKind, a_draftWith, a_kind, a_with, a_above, a_as, a_part, a_open, a_means, a_own, a_yields, a_binder, a_outer, a_holdsSort, a_holds, a_fnToken, a_fnChain, a_state, a_gBody, a_gChain, a_gYield, a_closing, a_rowOf, a_many, a_wToken, a_wOperand, a_wChain, a_wSort, a_wHow, a_wValue, a_noteSort, a_noteNumber))
    (hgo : ∀ u L, u < i → i < e u → (∀ v, v ∈ L → v < u ∧ i < e v) → (∀ v, v < i → i < e v → v ∈ u :: L) → cy_L a_open (u :: L) → tr_pa e i = u → tr_ix e i < gs_o nt a_kind u → tr_c e u (tr_ix e i) = i →
      wY_shape_78 post J (nI (L.length + 1)) (nI i) (nI u) (nI (tr_ix e i)) f_drafted f_length f_place f_there f_chains f_functions f_generators f_active f_begins f_token f_chain f_how f_sort f_value f_steps f_endSort f_status f_endNumber f_over f_noted a_draftKind a_draftWith a_kind a_with a_above a_as a_part a_open a_means a_own a_yields a_binder a_outer a_holdsSort a_holds a_fnToken a_fnChain a_state a_gBody a_gChain a_gYield a_closing a_rowOf a_many a_wToken a_wOperand a_wChain a_wSort a_wHow a_wValue a_noteSort a_noteNumber) :
    ∀ L : List Nat, (∀ u, u ∈ L → u < i ∧ i ≤ e u) → (∀ u, u < i → i < e u → u ∈ L) → cy_L a_open L → wY_shape_21 post J (nI i) f_drafted f_length f_place f_there f_chains f_functions f_generators f_active f_begins f_token f_chain f_how f_sort f_value f_steps f_endSort f_status f_endNumber f_over f_noted a_draftKind a_draftWith a_kind a_with a_above a_as a_part a_open a_means a_own a_yields a_binder a_outer a_holdsSort a_holds a_fnToken a_fnChain a_state a_gBody a_gChain a_gYield a_closing a_rowOf a_many a_wToken a_wOperand a_wChain a_wSort a_wHow a_wValue a_noteSort a_noteNumber (L.length + 1) (nI L.length) := by
  intro L
  induction L with
  | nil =>
    intro h1 h2 h3
    refine br_t (by decide) (br_t rfl (hret ?_))
    by_cases z : i < e 0
    · have := h2 0 hi0 z
      cases this
    · omega
  | cons u L ih =>
    intro h1 h2 h3
    have hu := h1 u (List.mem_cons_self ..)
    have hlen := cy_Ln (u :: L) h3 (fun v hv => (h1 v hv).1)
    have hlen2 : L.length + 1 ≤ i := hlen
    have el : nI (u :: L).length - 1 = nI L.length := nI_pred _
    have elc : (nI L.length).toNatClampNeg = L.length := nI_clamp (by omega)
    have i49 : vp_in (nI L.length) 49 := vp_in_nI (by omega) (by decide)
    refine br_f (nI_nle (n := L.length + 1) (by omega) (by omega)) ?_
    rw [el]
    refine ⟨i49, ?_⟩
    rw [elc, h3.1]
    by_cases z : e u = i
    · refine cy_lk0 hnt (by omega) hkd h hI hu.1 (by omega) (br_t rfl (nm_r (e' := nI L.length) (pk_m1 _) (ih (fun v hv => h1 v (List.mem_cons_of_mem _ hv)) ?_ h3.2.2)))
      intro v hv1 hv2
      rcases List.mem_cons.mp (h2 v hv1 hv2) with y | y
      · subst y
        omega
      · exact y
    · have hlt : i < e u := by omega
      have hp := cy_par h hu.1 h3.2.1 h2 hlt
      obtain ⟨k, hk27, hk⟩ := hkd u (by omega)
      have ho := gs_oi nt a_kind u (by omega)
      have o3 := gs_o3 nt a_kind u
      have lk : ∀ post' : Int32 → Prop, post' (nI (gs_o nt a_kind u - tr_ix e i)) → wpY_lacks post' (f_drafted, f_length, f_place, f_there, f_chains, f_functions, f_generators, f_active, f_begins, f_token, f_chain, f_how, f_sort, f_value, f_steps, f_endSort, f_status, f_endNumber, f_over, f_noted, a_draftKind, a_draftWith, a_kind, a_with, a_above, a_as, a_part, a_open, a_means, a_own, a_yields, a_binder, a_outer, a_holdsSort, a_holds, a_fnToken, a_fnChain, a_state, a_gBody, a_gChain, a_gYield, a_closing, a_rowOf, a_many, a_wToken, a_wOperand, a_wChain, a_wSort, a_wHow, a_wValue, a_noteSort, a_noteNumber) (nI u) := by
        intro post' hq
        refine cy_lko hnt (by omega) hkd h hI hu.1 (Nat.le_of_lt hp.2.1) (fun j hj => ?_) (fun j hj1 hj2 => ?_) hq
        · have := tr_cm h u j (tr_ix e i) hj
          rw [hp.2.2] at this
          exact this
        · have := tr_cme h u (tr_ix e i) j hj1
          rw [hp.2.2] at this
          exact this
      refine lk _ (br_f (nI_ne0 (by omega) (by omega)) (br_f (nI_ne0 (n := L.length + 1) (by omega) (by omega)) ?_))
      rw [el]
      refine ⟨i49, nm_r (e' := nI u) (by rw [elc]; exact h3.1) ⟨vp_in_nI (by omega) (by decide), ?_⟩⟩
      rw [nI_clamp (by omega), hk]
      refine ym_ops k hk27 (lk _ (nm_r (e' := nI (tr_ix e i)) ?_ (hgo u L hu.1 hlt ?_ h2 h3 hp.1 hp.2.1 hp.2.2)))
      · rw [hk] at ho
        rw [← ho, pk_sub (by omega)]
        exact congrArg nI (by have := hp.2.1; omega)
      · intro v hv
        have h4 := h3.2.1 v hv
        have h5 := h1 v (List.mem_cons_of_mem _ hv)
        have h6 := tr_nest h _ v u (Nat.le_refl _) (by omega) (by omega)
        exact ⟨h4, by omega⟩
end
end
section
section
variable {f_drafted f_length f_place f_there f_chains f_functions f_generators f_active f_begins f_token f_chain f_how f_sort : Int32} {f_value : Int64} {f_steps f_endSort f_status : Int32} {f_endNumber : Int64} {f_over f_noted : Int32} {a_draftKind a_draftWith a_kind a_with a_above a_as a_part a_open a_means a_own a_yields a_binder a_outer a_holdsSort : Nat → Int32} {a_holds : Nat → Int64} {a_fnToken a_fnChain a_state a_gBody a_gChain a_gYield a_closing a_rowOf a_many a_wToken a_wOperand a_wChain a_wSort a_wHow : Nat → Int32} {a_wValue : Nat → Int64} {a_noteSort : Nat → Int32} {a_noteNumber : Nat → Int64}
theorem cy_78 {post : Int32 → SY → Prop} (J : Int32 → Int32 → (Nat → Int32) → (Nat → Int32) → (Nat → Int32) → (Nat → Int32) → (Nat → Int32) → (Nat → Int32) → (Nat → Int32) → (Nat → Int32) → (Nat → Int32) → (Nat → Int32) → (Nat → Int32) → (Nat → Int32) → (Nat → Int32) → (Nat → Int32) → (Nat → Int64) → (Nat → Int32) → (Nat → Int32) → (Nat → Int32) → (Nat → Int32) → (Nat → Int32) → (Nat → Int32) → (Nat → Int32) → (Nat → Int32) → (Nat → Int32) → (Nat → Int32) → (Nat → Int32) → (Nat → Int32) → (Nat → Int32) → (Nat → Int32) → (Nat → Int64) → (Nat → Int32) → (Nat → Int64) → Prop) {l i : Nat} {x3 x4 : Int32} (hi : i < 48) (hl : l < 49)
    (h1 : x3 < 0 → J (nI (l + 1)) (nI (i + 1)) a_draftKind a_draftWith a_kind a_with (upd a_above i x3) (upd a_as i x4) (upd (upd (upd a_part (3 * i) (-1)) (3 * i + 1) (-1)) (3 * i + 2) (-1)) (upd a_open l (nI i)) a_means a_own a_yields a_binder a_outer a_holdsSort a_holds a_fnToken a_fnChain a_state a_gBody a_gChain a_gYield a_closing a_rowOf a_many a_wToken a_wOperand a_wChain a_wSort a_wHow a_wValue a_noteSort a_noteNumber)
    (h2 : ¬ x3 < 0 → ∃ u j, x3 = nI u ∧ x4 = nI j ∧ u < 48 ∧ j < 3 ∧ J (nI (l + 1)) (nI (i + 1)) a_draftKind a_draftWith a_kind a_with (upd a_above i x3) (upd a_as i x4) (upd (upd (upd (upd a_part (3 * i) (-1)) (3 * i + 1) (-1)) (3 * i + 2) (-1)) (3 * u + j) (nI i)) (upd a_open l (nI i)) a_means a_own a_yields a_binder a_outer a_holdsSort a_holds a_fnToken a_fnChain a_state a_gBody a_gChain a_gYield a_closing a_rowOf a_many a_wToken a_wOperand a_wChain a_wSort a_wHow a_wValue a_noteSort a_noteNumber) :
    wY_shape_78 post J (nI l) (nI i) x3 x4 f_drafted f_length f_place f_there f_chains f_functions f_generators f_active f_begins f_token f_chain f_how f_sort f_value f_steps f_endSort f_status f_endNumber f_over f_noted a_draftKind a_draftWith a_kind a_with a_above a_as a_part a_open a_means a_own a_yields a_binder a_outer a_holdsSort a_holds a_fnToken a_fnChain a_state a_gBody a_gChain a_gYield a_closing a_rowOf a_many a_wToken a_wOperand a_wChain a_wSort a_wHow a_wValue a_noteSort a_noteNumber := by
  have iv : vp_in (nI i) 49 := vp_in_nI (by omega) (by decide)
  have ei : (nI i).toNatClampNeg = i := nI_clamp (by omega)
  refine ⟨iv, nm_r (e' := upd a_above i x3) (by rw [ei]) ⟨iv, nm_r (e' := upd a_as i x4) (by rw [ei]) ⟨4, ?_⟩⟩⟩
  refine cy_96 J hi (br_c (fun z => ?_) (fun z => ?_))
  · exact cy_136 J hl (h1 z)
  · obtain ⟨u, j, rfl, rfl, hu, hj, hJ⟩ := h2 z
    have e3 : (3 : Int32) * nI u + nI j = nI (3 * u + j) := by rw [show (3 : Int32) = nI 3 from rfl, pk_mul, nI_add]
    rw [e3]
    refine ⟨vp_in_nI (by omega) (by decide), nm_r (by rw [nI_clamp (by omega)]) ?_⟩
    exact cy_136 J hl hJ
end
theorem cy_ms {o e : Nat → Nat} (h : tr_T o e) (u i : Nat) : ∀ b, ∃ m, m ≤ b ∧ (∀ j, j < m → tr_c e u j < i) ∧ (∀ j, m ≤ j → j < b → i ≤ tr_c e u j) := by
  intro b
  induction b with
  | zero => exact ⟨0, Nat.le_refl _, fun j hj => absurd hj (Nat.not_lt_zero _), fun j _ hj => absurd hj (Nat.not_lt_zero _)⟩
  | succ b ih =>
    obtain ⟨m, h1, h2, h3⟩ := ih
    by_cases z : m = b
    · subst z
      by_cases y : tr_c e u m < i
      · refine ⟨m + 1, Nat.le_refl _, fun j hj => ?_, fun j h4 h5 => by omega⟩
        by_cases q : j = m
        · subst q; exact y
        · exact h2 j (by omega)
      · refine ⟨m, by omega, h2, fun j h4 h5 => ?_⟩
        have : j = m := by omega
        subst this
        omega
    · refine ⟨m, by omega, h2, fun j h4 h5 => ?_⟩
      by_cases q : j = b
      · subst q
        have a := h3 m (Nat.le_refl _) (by omega)
        have c := tr_cm h u m j (by omega)
        omega
      · exact h3 j h4 (by omega)
section
variable {f_drafted f_length f_place f_there f_chains f_functions f_generators f_active f_begins f_token f_chain f_how f_sort : Int32} {f_value : Int64} {f_steps f_endSort f_status : Int32} {f_endNumber : Int64} {f_over f_noted : Int32} {a_draftKind a_draftWith a_kind a_with a_above a_as a_part a_open a_means a_own a_yields a_binder a_outer a_holdsSort : Nat → Int32} {a_holds : Nat → Int64} {a_fnToken a_fnChain a_state a_gBody a_gChain a_gYield a_closing a_rowOf a_many a_wToken a_wOperand a_wChain a_wSort a_wHow : Nat → Int32} {a_wValue : Nat → Int64} {a_noteSort : Nat → Int32} {a_noteNumber : Nat → Int64}
variable {nt : Nat} {e : Nat → Nat}
theorem cy_A {post : Int32 → SY → Prop} {L : List Nat} (hnt : nt ≤ 48) (hn0 : 0 < nt) (el : f_length = nI nt) (hkd : ∀ i, i < nt → ∃ k, k < 27 ∧ a_kind i = nI k) (h : tr_T (gs_o nt a_kind) e) (hI : cy_I nt a_kind e nt a_above a_as a_part)
    (hL : ∀ u, u ∈ L → u < nt ∧ e u ≤ nt) (hop : cy_L a_open L) (hp : post (-1) (f_drafted, f_length, f_place, f_there, f_chains, f_functions, f_generators, f_active, f_begins, f_token, f_chain, f_how, f_sort, f_value, f_steps, f_endSort, f_status, f_endNumber, f_over, f_noted, a_draftKind, a_draftWith, a_kind, a_with, a_above, a_as, a_part, a_open, a_means, a_own, a_yields, a_binder, a_outer, a_holdsSort, a_holds, a_fnToken, a_fnChain, a_state, a_gBody, a_gChain, a_gYield, a_closing, a_rowOf, a_many, a_wToken, a_wOperand, a_wChain, a_wSort, a_wHow, a_wValue, a_noteSort, a_noteNumber)) : ∀ d k, k + d = L.length → wY_shape_154 post (nI L.length) f_drafted f_length f_place f_there f_chains f_functions f_generators f_active f_begins f_token f_chain f_how f_sort f_value f_steps f_endSort f_status f_endNumber f_over f_noted a_draftKind a_draftWith a_kind a_with a_above a_as a_part a_open a_means a_own a_yields a_binder a_outer a_holdsSort a_holds a_fnToken a_fnChain a_state a_gBody a_gChain a_gYield a_closing a_rowOf a_many a_wToken a_wOperand a_wChain a_wSort a_wHow a_wValue a_noteSort a_noteNumber (d + 1) (nI k) := by
  have hlen := cy_Ln L hop (fun v hv => (hL v hv).1)
  intro d
  induction d with
  | zero =>
    intro k hk
    exact br_t (nI_le (by omega) (by omega)) (br_f (by rw [el]; exact nI_ne0 hn0 (by omega)) hp)
  | succ d ih =>
    intro k hk
    obtain ⟨u, hu, eu⟩ := cy_Li L hop k (by omega)
    refine br_f (nI_ge (by omega) (by omega)) ⟨vp_in_nI (by omega) (by decide), ?_⟩
    rw [nI_clamp (by omega), eu]
    exact cy_lk0 hnt (Nat.le_refl _) hkd h hI (hL u hu).1 (hL u hu).2 (br_t (by decide) (nm_r (nI_1 k) (ih (k + 1) (by omega))))
theorem cy_B {post : Int32 → SY → Prop} {L : List Nat} {k0 u0 m0 : Nat} (hnt : nt ≤ 48) (el : f_length = nI nt) (hkd : ∀ i, i < nt → ∃ k, k < 27 ∧ a_kind i = nI k) (h : tr_T (gs_o nt a_kind) e) (hI : cy_I nt a_kind e nt a_above a_as a_part)
    (hL : ∀ u, u ∈ L → u < nt) (hop : cy_L a_open L) (hk0 : k0 < L.length) (ek0 : a_open k0 = nI u0) (hu0 : u0 < nt) (hm0 : m0 < gs_o nt a_kind u0) (hm1 : ∀ j, j < m0 → tr_c e u0 j < nt) (hm2 : ∀ j, m0 ≤ j → j < gs_o nt a_kind u0 → nt ≤ tr_c e u0 j) (hp : post (nI nt) (f_drafted, f_length, f_place, f_there, f_chains, f_functions, f_generators, f_active, f_begins, f_token, f_chain, f_how, f_sort, f_value, f_steps, f_endSort, f_status, f_endNumber, f_over, f_noted, a_draftKind, a_draftWith, a_kind, a_with, a_above, a_as, a_part, a_open, a_means, a_own, a_yields, a_binder, a_outer, a_holdsSort, a_holds, a_fnToken, a_fnChain, a_state, a_gBody, a_gChain, a_gYield, a_closing, a_rowOf, a_many, a_wToken, a_wOperand, a_wChain, a_wSort, a_wHow, a_wValue, a_noteSort, a_noteNumber)) :
    ∀ d k, k + d = L.length → k ≤ k0 → wY_shape_154 post (nI L.length) f_drafted f_length f_place f_there f_chains f_functions f_generators f_active f_begins f_token f_chain f_how f_sort f_value f_steps f_endSort f_status f_endNumber f_over f_noted a_draftKind a_draftWith a_kind a_with a_above a_as a_part a_open a_means a_own a_yields a_binder a_outer a_holdsSort a_holds a_fnToken a_fnChain a_state a_gBody a_gChain a_gYield a_closing a_rowOf a_many a_wToken a_wOperand a_wChain a_wSort a_wHow a_wValue a_noteSort a_noteNumber (d + 1) (nI k) := by
  have hlen := cy_Ln L hop hL
  intro d
  induction d with
  | zero => intro k hk hk2; omega
  | succ d ih =>
    intro k hk hk2
    refine br_f (nI_ge (by omega) (by omega)) ⟨vp_in_nI (by omega) (by decide), ?_⟩
    rw [nI_clamp (by omega)]
    by_cases z : k = k0
    · subst z
      rw [ek0]
      have o3 := gs_o3 nt a_kind u0
      refine cy_lko hnt (Nat.le_refl _) hkd h hI hu0 (Nat.le_of_lt hm0) hm1 hm2 (br_f (nI_nle (by omega) (by omega)) ?_)
      rw [el]
      subst el
      exact hp
    · obtain ⟨u, hu, eu⟩ := cy_Li L hop k (by omega)
      rw [eu]
      obtain ⟨m, q1, q2, q3⟩ := cy_ms h u nt (gs_o nt a_kind u)
      refine cy_lko hnt (Nat.le_refl _) hkd h hI (hL u hu) q1 q2 q3 (br_c (fun _ => nm_r (nI_1 k) (ih (k + 1) (by omega) (by omega))) (fun _ => ?_))
      rw [el]
      subst el
      exact hp
theorem cy_next {i l u : Nat} {L : List Nat} (hi0 : 0 < i) (hi : i < nt) (h : tr_T (gs_o nt a_kind) e) (hI : cy_I nt a_kind e i a_above a_as a_part) (hu : u < i) (hpa : tr_pa e i = u) (hix : tr_ix e i < gs_o nt a_kind u) (hc : tr_c e u (tr_ix e i) = i) :
    cy_I nt a_kind e (i + 1) (upd a_above i (nI u)) (upd a_as i (nI (tr_ix e i))) (upd (upd (upd (upd a_part (3 * i) (-1)) (3 * i + 1) (-1)) (3 * i + 2) (-1)) (3 * u + tr_ix e i) (nI i)) := by
  have o3 := gs_o3 nt a_kind
  have ou := o3 u
  refine ⟨fun _ => by rw [pk_un (by omega)]; exact hI.1 hi0, ?_, ?_⟩
  · intro j h1 h2
    by_cases z : j = i
    · subst z
      rw [pk_us, pk_us, hpa]
      exact ⟨rfl, rfl⟩
    · rw [pk_un z, pk_un z]
      exact hI.2.1 j h1 (by omega)
  · intro p j hp hj
    have op := o3 p
    by_cases z : p = i
    · subst z
      have hg := tr_cgt h p j
      refine ⟨fun y => by omega, fun _ => ?_⟩
      rw [pk_un (by omega), cy_p3i (by omega)]
    · have q := hI.2.2 p j (by omega) hj
      by_cases y : p = u ∧ j = tr_ix e i
      · obtain ⟨rfl, rfl⟩ := y
        refine ⟨fun _ => ?_, fun y => by omega⟩
        rw [pk_us, hc]
      · have hne : 3 * p + j ≠ 3 * u + tr_ix e i := by
          intro w
          apply y
          omega
        have hne2 : tr_c e p j ≠ i := by
          intro w
          apply y
          exact tr_uniq h hj hix (w.trans hc.symm)
        refine ⟨fun w => ?_, fun w => ?_⟩
        · rw [pk_un hne, cy_p3 (by omega)]
          exact q.1 (by omega)
        · rw [pk_un hne, cy_p3 (by omega)]
          exact q.2 (by omega)
end
section
variable {f_drafted f_length f_place f_there f_chains f_functions f_generators f_active f_begins f_token f_chain f_how f_sort : Int32} {f_value : Int64} {f_steps f_endSort f_status : Int32} {f_endNumber : Int64} {f_over f_noted : Int32} {a_draftKind a_draftWith a_kind a_with a_above a_as a_part a_open a_means a_own a_yields a_binder a_outer a_holdsSort : Nat → Int32} {a_holds : Nat → Int64} {a_fnToken a_fnChain a_state a_gBody a_gChain a_gYield a_closing a_rowOf a_many a_wToken a_wOperand a_wChain a_wSort a_wHow : Nat → Int32} {a_wValue : Nat → Int64} {a_noteSort : Nat → Int32} {a_noteNumber : Nat → Int64}
variable {nt : Nat} {e : Nat → Nat}
theorem cy_4 {post : Int32 → SY → Prop} (hnt : nt ≤ 48) (el : f_length = nI nt) (hkd : ∀ i, i < nt → ∃ k, k < 27 ∧ a_kind i = nI k) (h : tr_T (gs_o nt a_kind) e)
    (hfin : ∀ ab as pt op : Nat → Int32, (e 0 = nt → cy_I nt a_kind e nt ab as pt) → post (cm_pl (e 0) nt) (f_drafted, f_length, f_place, f_there, f_chains, f_functions, f_generators, f_active, f_begins, f_token, f_chain, f_how, f_sort, f_value, f_steps, f_endSort, f_status, f_endNumber, f_over, f_noted, a_draftKind, a_draftWith, a_kind, a_with, ab, as, pt, op, a_means, a_own, a_yields, a_binder, a_outer, a_holdsSort, a_holds, a_fnToken, a_fnChain, a_state, a_gBody, a_gChain, a_gYield, a_closing, a_rowOf, a_many, a_wToken, a_wOperand, a_wChain, a_wSort, a_wHow, a_wValue, a_noteSort, a_noteNumber)) :
    ∀ d i (ab as pt op : Nat → Int32) (L : List Nat), i + d = nt → i ≤ e 0 → cy_I nt a_kind e i ab as pt → (∀ u, u ∈ L ↔ u < i ∧ i ≤ e u) → cy_L op L →
    wY_shape_4 post f_drafted f_length f_place f_there f_chains f_functions f_generators f_active f_begins f_token f_chain f_how f_sort f_value f_steps f_endSort f_status f_endNumber f_over f_noted (d + 1) (nI L.length) (nI i) a_draftKind a_draftWith a_kind a_with ab as pt op a_means a_own a_yields a_binder a_outer a_holdsSort a_holds a_fnToken a_fnChain a_state a_gBody a_gChain a_gYield a_closing a_rowOf a_many a_wToken a_wOperand a_wChain a_wSort a_wHow a_wValue a_noteSort a_noteNumber := by
  intro d
  induction d with
  | zero =>
    intro i ab as pt op L hi hie hI hL hop
    have hi : i = nt := by omega
    subst hi
    have hlt : ∀ u, u ∈ L → u < i := fun u hu => ((hL u).mp hu).1
    have hlen := cy_Ln L hop hlt
    refine br_t (by rw [el]; exact nI_le (Nat.le_refl _) (by omega)) ⟨L.length + 1, ?_⟩
    by_cases z : e 0 = i
    · have hn0 : 0 < i := by have := h.2 0; omega
      have hf := hfin ab as pt op (fun _ => hI)
      rw [cm_pl0 z] at hf
      refine cy_A hnt hn0 el hkd h hI (fun u hu => ⟨hlt u hu, ?_⟩) hop hf L.length 0 (by omega)
      have := tr_nest h _ 0 u (Nat.le_refl _) (by omega) (by have := hlt u hu; omega)
      omega
    · have hf := hfin ab as pt op (fun y => absurd y z)
      rw [cm_pl2 (by omega)] at hf
      by_cases y : i = 0
      · subst y
        have hLn : L = [] := by
          cases L with
          | nil => rfl
          | cons u L => exact absurd (hlt u (List.mem_cons_self ..)) (Nat.not_lt_zero _)
        subst hLn
        exact br_t (by decide) (br_t (by rw [el]; rfl) hf)
      · have hp := tr_pk (k := i) h (gs_o3 i a_kind) (by omega) (by omega)
        have hin := tr_cin h hp.2.1
        rw [hp.2.2] at hin
        obtain ⟨k0, hk0, ek0⟩ := cy_Lk L hop (tr_pa e i) ((hL _).mpr ⟨hp.1, by omega⟩)
        refine cy_B hnt el hkd h hI hlt hop hk0 ek0 hp.1 hp.2.1 (fun j hj => ?_) (fun j hj1 hj2 => ?_) hf L.length 0 (by omega) (Nat.zero_le _)
        · have := tr_cm h (tr_pa e i) j (tr_ix e i) hj
          rw [hp.2.2] at this
          exact this
        · have := tr_cme h (tr_pa e i) (tr_ix e i) j hj1
          rw [hp.2.2] at this
          exact this
  | succ d ih =>
    intro i ab as pt op L hi hie hI hL hop
    have hlt : ∀ u, u ∈ L → u < i := fun u hu => ((hL u).mp hu).1
    have hlen := cy_Ln L hop hlt
    refine br_f (by rw [el]; exact nI_ge (by omega) (by omega)) ?_
    by_cases z : i = 0
    · subst z
      have hLn : L = [] := by
        cases L with
        | nil => rfl
        | cons u L => exact absurd (hlt u (List.mem_cons_self ..)) (Nat.not_lt_zero _)
      subst hLn
      refine br_t (by decide) ?_
      refine cy_78 (l := 0) (i := 0) _ (by omega) (by omega) (fun _ => ?_) (fun y => absurd (by decide) y)
      refine ih 1 _ _ _ _ [0] (by omega) (by have := h.2 0; omega) ⟨fun _ => pk_us, fun j h1 h2 => by omega, ?_⟩ ?_ ⟨pk_us, fun v hv => (by cases hv), trivial⟩
      · intro p j hp hj
        have : p = 0 := by omega
        subst this
        have hg := tr_cgt h 0 j
        have o3 := gs_o3 nt a_kind 0
        exact ⟨fun y => by omega, fun _ => cy_p3i (i := 0) (by omega)⟩
      · intro u
        constructor
        · intro hu
          rcases List.mem_cons.mp hu with y | y
          · subst y
            exact ⟨by omega, by have := h.2 0; omega⟩
          · cases y
        · intro hu
          have : u = 0 := by omega
          subst this
          exact List.mem_cons_self ..
    · refine br_f (nI_nle (by omega) (by omega)) ⟨L.length + 1, ?_⟩
      refine cy_pop _ hnt (by omega) (by omega) hie hkd h hI ?_ ?_ L (fun u hu => (hL u).mp hu) (fun u h1 h2 => (hL u).mpr ⟨h1, by omega⟩) hop
      · intro y
        have hf := hfin ab as pt op (fun q => by omega)
        rw [cm_pl1 (by omega), y] at hf
        exact hf
      · intro u L2 hu hue hL2 hc2 hop2 hpa hix hc
        have hlen2 : L2.length + 1 ≤ i := cy_Ln (u :: L2) hop2 (fun v hv => by
          rcases List.mem_cons.mp hv with q | q
          · omega
          · have := (hL2 v q).1; omega)
        have o3 := gs_o3 nt a_kind u
        refine cy_78 (l := L2.length + 1) _ (by omega) (by omega) (fun y => absurd y (nI_pos (by omega))) (fun _ => ⟨u, tr_ix e i, rfl, rfl, by omega, by omega, ?_⟩)
        refine ih (i + 1) _ _ _ _ (i :: u :: L2) (by omega) ?_ (cy_next (l := 0) (L := []) (by omega) (by omega) h hI hu hpa hix hc) ?_ ⟨pk_us, ?_, cy_Lc (u :: L2) (fun j hj => pk_un (by have : j < L2.length + 1 := hj; omega)) hop2⟩
        · by_cases q : i < e 0
          · omega
          · have := tr_nest h _ 0 u (Nat.le_refl _) (by omega) (by omega)
            omega
        · intro v
          constructor
          · intro hv
            rcases List.mem_cons.mp hv with q | hv
            · subst q
              exact ⟨by omega, h.2 _⟩
            · rcases List.mem_cons.mp hv with q | hv
              · subst q
                exact ⟨by omega, hue⟩
              · have := hL2 v hv
                exact ⟨by omega, this.2⟩
          · intro hv
            by_cases q : v = i
            · subst q
              exact List.mem_cons_self ..
            · exact List.mem_cons_of_mem _ (hc2 v (by omega) (by omega))
        · intro v hv
          rcases List.mem_cons.mp hv with q | hv
          · omega
          · have := (hL2 v hv).1
            omega
theorem cy_shape {post : Int32 → SY → Prop} (hnt : nt ≤ 48) (el : f_length = nI nt) (hkd : ∀ i, i < nt → ∃ k, k < 27 ∧ a_kind i = nI k) (h : tr_T (gs_o nt a_kind) e)
    (hfin : ∀ ab as pt op : Nat → Int32, (e 0 = nt → cy_I nt a_kind e nt ab as pt) → post (cm_pl (e 0) nt) (f_drafted, f_length, f_place, f_there, f_chains, f_functions, f_generators, f_active, f_begins, f_token, f_chain, f_how, f_sort, f_value, f_steps, f_endSort, f_status, f_endNumber, f_over, f_noted, a_draftKind, a_draftWith, a_kind, a_with, ab, as, pt, op, a_means, a_own, a_yields, a_binder, a_outer, a_holdsSort, a_holds, a_fnToken, a_fnChain, a_state, a_gBody, a_gChain, a_gYield, a_closing, a_rowOf, a_many, a_wToken, a_wOperand, a_wChain, a_wSort, a_wHow, a_wValue, a_noteSort, a_noteNumber)) : wpY_shape post (f_drafted, f_length, f_place, f_there, f_chains, f_functions, f_generators, f_active, f_begins, f_token, f_chain, f_how, f_sort, f_value, f_steps, f_endSort, f_status, f_endNumber, f_over, f_noted, a_draftKind, a_draftWith, a_kind, a_with, a_above, a_as, a_part, a_open, a_means, a_own, a_yields, a_binder, a_outer, a_holdsSort, a_holds, a_fnToken, a_fnChain, a_state, a_gBody, a_gChain, a_gYield, a_closing, a_rowOf, a_many, a_wToken, a_wOperand, a_wChain, a_wSort, a_wHow, a_wValue, a_noteSort, a_noteNumber) :=
  ⟨nt + 1, cy_4 hnt el hkd h hfin nt 0 a_above a_as a_part a_open [] (by omega) (by omega) ⟨fun z => absurd z (Nat.lt_irrefl _), fun j h1 h2 => by omega, fun p j hp => absurd hp (Nat.not_lt_zero _)⟩ (fun u => ⟨fun z => (by cases z), fun z => absurd z.1 (Nat.not_lt_zero _)⟩) trivial⟩
end
end
section
section
variable {f_drafted f_length f_place f_there f_chains f_functions f_generators f_active f_begins f_token f_chain f_how f_sort : Int32} {f_value : Int64} {f_steps f_endSort f_status : Int32} {f_endNumber : Int64} {f_over f_noted : Int32} {a_draftKind a_draftWith a_kind a_with a_above a_as a_part a_open a_means a_own a_yields a_binder a_outer a_holdsSort : Nat → Int32} {a_holds : Nat → Int64} {a_fnToken a_fnChain a_state a_gBody a_gChain a_gYield a_closing a_rowOf a_many a_wToken a_wOperand a_wChain a_wSort a_wHow : Nat → Int32} {a_wValue : Nat → Int64} {a_noteSort : Nat → Int32} {a_noteNumber : Nat → Int64}
theorem cy_binds {post : Int32 → Prop} {p j : Nat} (hp : p < 48) (hj : j < 3) (h1 : gw_bd (a_kind p) j → post 1) (h0 : ¬ gw_bd (a_kind p) j → post 0) : wpY_binds post (f_drafted, f_length, f_place, f_there, f_chains, f_functions, f_generators, f_active, f_begins, f_token, f_chain, f_how, f_sort, f_value, f_steps, f_endSort, f_status, f_endNumber, f_over, f_noted, a_draftKind, a_draftWith, a_kind, a_with, a_above, a_as, a_part, a_open, a_means, a_own, a_yields, a_binder, a_outer, a_holdsSort, a_holds, a_fnToken, a_fnChain, a_state, a_gBody, a_gChain, a_gYield, a_closing, a_rowOf, a_many, a_wToken, a_wOperand, a_wChain, a_wSort, a_wHow, a_wValue, a_noteSort, a_noteNumber) (nI p) (nI j) := by
  have iv : vp_in (nI p) 48 := vp_in_nI hp (by decide)
  have ep : (nI p).toNatClampNeg = p := nI_clamp (by omega)
  have f31 : (a_kind p = 4 ∨ a_kind p = 20) → ¬ a_kind p = 5 → wY_binds_31 post (nI j) f_drafted f_length f_place f_there f_chains f_functions f_generators f_active f_begins f_token f_chain f_how f_sort f_value f_steps f_endSort f_status f_endNumber f_over f_noted a_draftKind a_draftWith a_kind a_with a_above a_as a_part a_open a_means a_own a_yields a_binder a_outer a_holdsSort a_holds a_fnToken a_fnChain a_state a_gBody a_gChain a_gYield a_closing a_rowOf a_many a_wToken a_wOperand a_wChain a_wSort a_wHow a_wValue a_noteSort a_noteNumber := by
    intro c c5
    by_cases z : j = 1
    · subst z
      exact br_t rfl (h1 (Or.inr ⟨c, rfl⟩))
    · refine br_f ?_ (h0 ?_)
      · show ¬ nI j = nI 1
        rw [nI_eq (by omega) (by omega)]
        exact z
      · rintro (y | y)
        · exact c5 y
        · exact z y.2
  refine ⟨iv, ?_⟩
  rw [ep]
  refine br_c (fun c5 => h1 (Or.inl c5)) (fun c5 => ⟨iv, br_c (fun c4 => f31 (Or.inl c4) c5) (fun c4 => ⟨iv, br_c (fun c20 => f31 (Or.inr c20) c5) (fun c20 => h0 ?_)⟩)⟩)
  rintro (y | ⟨y | y, _⟩)
  · exact c5 y
  · exact c4 y
  · exact c20 y
theorem cy_lo {post : SY → Prop} {nt i : Nat} {e : Nat → Nat} {g Mn0 W0 : Nat → Int32} (hnt : nt ≤ 48) (h : tr_T (gs_o nt a_kind) e) (h0 : e 0 = nt) (hA0 : a_above 0 = -1) (hA : ∀ k, 0 < k → k < nt → a_above k = nI (tr_pa e k) ∧ a_as k = nI (tr_ix e k)) (hi : i < nt)
    (hp : ∀ M' W' : Nat → Int32, (∀ j, j ≠ i → M' j = Mn0 j) → M' i = cm_m a_kind a_with e i → (∀ j, j ≠ i → W' j = W0 j) → W' i = gs_ow a_kind e i →
      post (f_drafted, f_length, f_place, f_there, f_chains, f_functions, f_generators, f_active, f_begins, f_token, f_chain, f_how, f_sort, f_value, f_steps, f_endSort, f_status, f_endNumber, f_over, f_noted, a_draftKind, a_draftWith, a_kind, a_with, a_above, a_as, a_part, a_open, M', W', (if a_kind i = 22 ∧ ¬ gs_ow a_kind e i < 0 then upd g (gs_ow a_kind e i).toNatClampNeg 1 else g), a_binder, a_outer, a_holdsSort, a_holds, a_fnToken, a_fnChain, a_state, a_gBody, a_gChain, a_gYield, a_closing, a_rowOf, a_many, a_wToken, a_wOperand, a_wChain, a_wSort, a_wHow, a_wValue, a_noteSort, a_noteNumber)) :
    ∀ n k (Mn W : Nat → Int32), k < nt → k < n → (∀ j, j ≠ i → Mn j = Mn0 j) → (∀ j, j ≠ i → W j = W0 j) →
    ((W i = gs_ow a_kind e i ∧ ¬ gs_ow a_kind e i < 0) ∨ (W i = -1 ∧ gs_ow a_kind e k = gs_ow a_kind e i)) →
    ((Mn i = cm_m a_kind a_with e i ∧ ¬ cm_m a_kind a_with e i < 0) ∨ (Mn i = -1 ∧ (if a_kind i = 2 ∨ a_kind i = 3 then cm_fb a_with (a_with i) (gs_sc a_kind e k) else -1) = cm_m a_kind a_with e i)) →
    wY_look_23 post (nI i) f_drafted f_length f_place f_there f_chains f_functions f_generators f_active f_begins f_token f_chain f_how f_sort f_value f_steps f_endSort f_status f_endNumber f_over f_noted n (nI k) a_draftKind a_draftWith a_kind a_with a_above a_as a_part a_open Mn W g a_binder a_outer a_holdsSort a_holds a_fnToken a_fnChain a_state a_gBody a_gChain a_gYield a_closing a_rowOf a_many a_wToken a_wOperand a_wChain a_wSort a_wHow a_wValue a_noteSort a_noteNumber := by
  have ivi : vp_in (nI i) 48 := vp_in_nI (by omega) (by decide)
  have ei : (nI i).toNatClampNeg = i := nI_clamp (by omega)
  have hOW := cm_ow h h0
  intro n
  induction n with
  | zero => intro k Mn W _ hn; omega
  | succ n ih =>
    intro k Mn W hk hn hM hW cW cM
    have ivk : vp_in (nI k) 49 := vp_in_nI (by omega) (by decide)
    have ek : (nI k).toNatClampNeg = k := nI_clamp (by omega)
    by_cases z : k = 0
    · subst z
      have eW : W i = gs_ow a_kind e i := by
        rcases cW with c | c
        · exact c.1
        · rw [c.1, ← c.2]; rfl
      have eM : Mn i = cm_m a_kind a_with e i := by
        rcases cM with c | c
        · exact c.1
        · rw [c.1, ← c.2]
          split <;> rfl
      have hpf := hp Mn W hM eM hW eW
      refine ⟨ivk, ?_⟩
      rw [ek, hA0]
      refine br_t (by decide) ⟨ivi, ?_⟩
      rw [ei]
      refine br_c (fun k22 => ⟨ivi, ?_⟩) (fun k22 => ?_)
      · rw [eW]
        refine br_c (fun c => ?_) (fun c => ⟨ivi, ?_, ?_⟩)
        · rw [if_neg (fun q => q.2 c)] at hpf
          exact hpf
        · rcases hOW i hi with q | ⟨f, hf, q, _⟩
          · rw [q] at c
            exact absurd (by decide) c
          · rw [q]
            exact vp_in_nI (by omega) (by decide)
        · rw [if_pos ⟨k22, c⟩] at hpf
          exact nm_r (by rw [ym_b1]) hpf
      · rw [if_neg (fun q => k22 q.1)] at hpf
        exact hpf
    · have hp2 := tr_pk (k := k) h (gs_o3 nt a_kind) (by omega) (by omega)
      have how := gs_owp (K := a_kind) (k := k) h (gs_o3 nt a_kind) (by omega) (by omega)
      have hsc := gs_scp (K := a_kind) (k := k) h (gs_o3 nt a_kind) (by omega) (by omega)
      have o3 := gs_o3 nt a_kind (tr_pa e k)
      obtain ⟨hAk, hAs⟩ := hA k (by omega) hk
      have ivp : vp_in (nI (tr_pa e k)) 48 := vp_in_nI (by omega) (by decide)
      have ep : (nI (tr_pa e k)).toNatClampNeg = tr_pa e k := nI_clamp (by omega)
      have f65 : ∀ W1 : Nat → Int32, (∀ j, j ≠ i → W1 j = W0 j) → ((W1 i = gs_ow a_kind e i ∧ ¬ gs_ow a_kind e i < 0) ∨ (W1 i = -1 ∧ gs_ow a_kind e (tr_pa e k) = gs_ow a_kind e i)) →
          wY_look_65 post (wY_look_23 post (nI i) f_drafted f_length f_place f_there f_chains f_functions f_generators f_active f_begins f_token f_chain f_how f_sort f_value f_steps f_endSort f_status f_endNumber f_over f_noted n) (nI i) (nI k) (nI (tr_pa e k)) f_drafted f_length f_place f_there f_chains f_functions f_generators f_active f_begins f_token f_chain f_how f_sort f_value f_steps f_endSort f_status f_endNumber f_over f_noted a_draftKind a_draftWith a_kind a_with a_above a_as a_part a_open Mn W1 g a_binder a_outer a_holdsSort a_holds a_fnToken a_fnChain a_state a_gBody a_gChain a_gYield a_closing a_rowOf a_many a_wToken a_wOperand a_wChain a_wSort a_wHow a_wValue a_noteSort a_noteNumber := by
        intro W1 hW1 cW1
        have go : ∀ M1 : Nat → Int32, (∀ j, j ≠ i → M1 j = Mn0 j) → ((M1 i = cm_m a_kind a_with e i ∧ ¬ cm_m a_kind a_with e i < 0) ∨ (M1 i = -1 ∧ (if a_kind i = 2 ∨ a_kind i = 3 then cm_fb a_with (a_with i) (gs_sc a_kind e (tr_pa e k)) else -1) = cm_m a_kind a_with e i)) →
            vp_in (nI k) 49 ∧ ∀ y : Int32, y = a_above (nI k).toNatClampNeg → wY_look_23 post (nI i) f_drafted f_length f_place f_there f_chains f_functions f_generators f_active f_begins f_token f_chain f_how f_sort f_value f_steps f_endSort f_status f_endNumber f_over f_noted n y a_draftKind a_draftWith a_kind a_with a_above a_as a_part a_open M1 W1 g a_binder a_outer a_holdsSort a_holds a_fnToken a_fnChain a_state a_gBody a_gChain a_gYield a_closing a_rowOf a_many a_wToken a_wOperand a_wChain a_wSort a_wHow a_wValue a_noteSort a_noteNumber := by
          intro M1 hM1 cM1
          exact ⟨ivk, nm_r (e' := nI (tr_pa e k)) (by rw [ek]; exact hAk) (ih _ M1 W1 (by omega) (by omega) hM1 hW1 cW1 cM1)⟩
        have go' : ∀ M1 : Nat → Int32, (∀ j, j ≠ i → M1 j = Mn0 j) → ((M1 i = cm_m a_kind a_with e i ∧ ¬ cm_m a_kind a_with e i < 0) ∨ (M1 i = -1 ∧ (if a_kind i = 2 ∨ a_kind i = 3 then cm_fb a_with (a_with i) (gs_sc a_kind e (tr_pa e k)) else -1) = cm_m a_kind a_with e i)) →
            vp_in (nI k) 49 ∧ ∀ y : Int32, y = a_above k → wY_look_23 post (nI i) f_drafted f_length f_place f_there f_chains f_functions f_generators f_active f_begins f_token f_chain f_how f_sort f_value f_steps f_endSort f_status f_endNumber f_over f_noted n y a_draftKind a_draftWith a_kind a_with a_above a_as a_part a_open M1 W1 g a_binder a_outer a_holdsSort a_holds a_fnToken a_fnChain a_state a_gBody a_gChain a_gYield a_closing a_rowOf a_many a_wToken a_wOperand a_wChain a_wSort a_wHow a_wValue a_noteSort a_noteNumber := by
          intro M1 hM1 cM1
          exact ⟨ivk, nm_r (e' := nI (tr_pa e k)) hAk (ih _ M1 W1 (by omega) (by omega) hM1 hW1 cW1 cM1)⟩
        refine ⟨ivi, ?_⟩
        rw [ei]
        refine br_c (fun c => go Mn hM ?_) (fun c => ?_)
        · rcases cM with q | q
          · exact Or.inl q
          · rw [q.1] at c
            exact absurd c (by decide)
        · have cM2 : Mn i = -1 ∧ (if a_kind i = 2 ∨ a_kind i = 3 then cm_fb a_with (a_with i) (gs_sc a_kind e k) else -1) = cm_m a_kind a_with e i := by
            rcases cM with q | q
            · rw [q.1] at c
              exact absurd (Int32.not_lt.mp q.2) c
            · exact q
          have f94 : (a_kind i = 2 ∨ a_kind i = 3) → wY_look_94 post (wY_look_23 post (nI i) f_drafted f_length f_place f_there f_chains f_functions f_generators f_active f_begins f_token f_chain f_how f_sort f_value f_steps f_endSort f_status f_endNumber f_over f_noted n) (nI i) (nI k) (nI (tr_pa e k)) f_drafted f_length f_place f_there f_chains f_functions f_generators f_active f_begins f_token f_chain f_how f_sort f_value f_steps f_endSort f_status f_endNumber f_over f_noted a_draftKind a_draftWith a_kind a_with a_above a_as a_part a_open Mn W1 g a_binder a_outer a_holdsSort a_holds a_fnToken a_fnChain a_state a_gBody a_gChain a_gYield a_closing a_rowOf a_many a_wToken a_wOperand a_wChain a_wSort a_wHow a_wValue a_noteSort a_noteNumber := by
            intro vs
            rw [if_pos vs] at cM2
            refine ⟨ivk, ?_⟩
            rw [ek, hAs]
            refine cy_binds (by omega) (by have := hp2.2.1; omega) (fun bd => br_f (by decide) ⟨ivp, ivi, ?_⟩) (fun bd => br_t rfl (go' Mn hM (Or.inr ⟨cM2.1, ?_⟩)))
            · rw [ep, ei]
              rw [hsc, if_pos bd] at cM2
              have cM3 : (if a_with (tr_pa e k) = a_with i then nI (tr_pa e k) else cm_fb a_with (a_with i) (gs_sc a_kind e (tr_pa e k))) = cm_m a_kind a_with e i := cM2.2
              refine br_c (fun d => ⟨ivi, nm_e (go' _ (fun j hj => ?_) (Or.inl ⟨?_, ?_⟩))⟩) (fun d => go' Mn hM (Or.inr ⟨cM2.1, ?_⟩))
              · rw [pk_un hj]
                exact hM j hj
              · rw [if_pos d] at cM3
                rw [pk_us]
                exact cM3
              · rw [if_pos d] at cM3
                rw [← cM3]
                exact nI_pos (by omega)
              · rw [if_neg d] at cM3
                rw [if_pos vs]
                exact cM3
            · rw [hsc, if_neg bd] at cM2
              rw [if_pos vs]
              exact cM2.2
          refine ⟨ivi, br_c (fun c2 => f94 (Or.inl c2)) (fun c2 => ⟨ivi, br_c (fun c3 => f94 (Or.inr c3)) (fun c3 => go Mn hM (Or.inr ⟨cM2.1, ?_⟩))⟩)⟩
          have nv : ¬ (a_kind i = 2 ∨ a_kind i = 3) := fun q => by rcases q with q | q; exact c2 q; exact c3 q
          rw [if_neg nv]
          have := cM2.2
          rw [if_neg nv] at this
          exact this
      refine ⟨ivk, ?_⟩
      rw [ek, hAk]
      refine br_f (nI_pos (by omega)) ⟨ivk, nm_e ⟨ivi, ?_⟩⟩
      rw [ei]
      refine br_c (fun c => f65 W hW ?_) (fun c => ⟨ivp, ?_⟩)
      · rcases cW with q | q
        · exact Or.inl q
        · rw [q.1] at c
          exact absurd c (by decide)
      · have cW2 : W i = -1 ∧ gs_ow a_kind e k = gs_ow a_kind e i := by
          rcases cW with q | q
          · rw [q.1] at c
            exact absurd (Int32.not_lt.mp q.2) c
          · exact q
        rw [ep]
        refine br_c (fun k5 => ⟨ivi, nm_e (f65 _ (fun j hj => ?_) (Or.inl ⟨?_, ?_⟩))⟩) (fun k5 => f65 W hW (Or.inr ⟨cW2.1, ?_⟩))
        · rw [pk_un hj]
          exact hW j hj
        · rw [pk_us, ← cW2.2, how, if_pos k5]
        · rw [← cW2.2, how, if_pos k5]
          exact nI_pos (by omega)
        · rw [← cW2.2, how, if_neg k5]
theorem cy_look {post : SY → Prop} {nt i : Nat} {e : Nat → Nat} (hnt : nt ≤ 48) (h : tr_T (gs_o nt a_kind) e) (h0 : e 0 = nt) (hA0 : a_above 0 = -1) (hA : ∀ k, 0 < k → k < nt → a_above k = nI (tr_pa e k) ∧ a_as k = nI (tr_ix e k)) (hi : i < nt)
    (hp : ∀ M' W' : Nat → Int32, (∀ j, j ≠ i → M' j = a_means j) → M' i = cm_m a_kind a_with e i → (∀ j, j ≠ i → W' j = a_own j) → W' i = gs_ow a_kind e i →
      post (f_drafted, f_length, f_place, f_there, f_chains, f_functions, f_generators, f_active, f_begins, f_token, f_chain, f_how, f_sort, f_value, f_steps, f_endSort, f_status, f_endNumber, f_over, f_noted, a_draftKind, a_draftWith, a_kind, a_with, a_above, a_as, a_part, a_open, M', W', (if a_kind i = 22 ∧ ¬ gs_ow a_kind e i < 0 then upd (upd a_yields i 0) (gs_ow a_kind e i).toNatClampNeg 1 else upd a_yields i 0), a_binder, a_outer, a_holdsSort, a_holds, a_fnToken, a_fnChain, a_state, a_gBody, a_gChain, a_gYield, a_closing, a_rowOf, a_many, a_wToken, a_wOperand, a_wChain, a_wSort, a_wHow, a_wValue, a_noteSort, a_noteNumber)) : wpY_look post (f_drafted, f_length, f_place, f_there, f_chains, f_functions, f_generators, f_active, f_begins, f_token, f_chain, f_how, f_sort, f_value, f_steps, f_endSort, f_status, f_endNumber, f_over, f_noted, a_draftKind, a_draftWith, a_kind, a_with, a_above, a_as, a_part, a_open, a_means, a_own, a_yields, a_binder, a_outer, a_holdsSort, a_holds, a_fnToken, a_fnChain, a_state, a_gBody, a_gChain, a_gYield, a_closing, a_rowOf, a_many, a_wToken, a_wOperand, a_wChain, a_wSort, a_wHow, a_wValue, a_noteSort, a_noteNumber) (nI i) := by
  have ivi : vp_in (nI i) 48 := vp_in_nI (by omega) (by decide)
  have ei : (nI i).toNatClampNeg = i := nI_clamp (by omega)
  refine ⟨ivi, nm_r (e' := upd a_means i (-1)) (by rw [ei]) ⟨ivi, nm_r (e' := upd a_own i (-1)) (by rw [ei]) ⟨ivi, nm_r (e' := upd a_yields i 0) (by rw [ei, ym_b0]) ⟨i + 1, ?_⟩⟩⟩⟩
  refine cy_lo (Mn0 := a_means) (W0 := a_own) hnt h h0 hA0 hA hi hp (i + 1) i _ _ hi (by omega) (fun j hj => pk_un hj) (fun j hj => pk_un hj) (Or.inr ⟨pk_us, rfl⟩) (Or.inr ⟨pk_us, rfl⟩)
end
section
variable {f_drafted f_length f_place f_there f_chains f_functions f_generators f_active f_begins f_token f_chain f_how f_sort : Int32} {f_value : Int64} {f_steps f_endSort f_status : Int32} {f_endNumber : Int64} {f_over f_noted : Int32} {a_draftKind a_draftWith a_kind a_with a_above a_as a_part a_open a_means a_own a_yields a_binder a_outer a_holdsSort : Nat → Int32} {a_holds : Nat → Int64} {a_fnToken a_fnChain a_state a_gBody a_gChain a_gYield a_closing a_rowOf a_many a_wToken a_wOperand a_wChain a_wSort a_wHow : Nat → Int32} {a_wValue : Nat → Int64} {a_noteSort : Nat → Int32} {a_noteNumber : Nat → Int64}
theorem cy_76 {post : Int32 → SY → Prop} {nt : Nat} {e : Nat → Nat} {g0 : Nat → Int32} (hnt : nt ≤ 48) (el : f_length = nI nt) (h : tr_T (gs_o nt a_kind) e) (h0 : e 0 = nt) (hA0 : a_above 0 = -1) (hA : ∀ k, 0 < k → k < nt → a_above k = nI (tr_pa e k) ∧ a_as k = nI (tr_ix e k))
    (hp : ∀ M' W' : Nat → Int32, (∀ j, j < nt → M' j = cm_m a_kind a_with e j ∧ W' j = gs_ow a_kind e j) → ∃ n97, wY_compile_97 post f_drafted f_length f_place f_there f_chains f_functions f_generators f_active f_begins f_token f_chain f_how f_sort f_value f_steps f_endSort f_status f_endNumber f_over f_noted a_draftKind a_draftWith a_kind a_with a_above a_as a_part a_open M' W' (cm_g a_kind (gs_ow a_kind e) g0 nt) a_binder a_outer a_holdsSort a_holds a_fnToken a_fnChain a_state a_gBody a_gChain a_gYield a_closing a_rowOf a_many a_wToken a_wOperand a_wChain a_wSort a_wHow a_wValue a_noteSort a_noteNumber n97 0) :
    ∀ d i (Mn W g : Nat → Int32), i + d = nt → (∀ j, j < i → Mn j = cm_m a_kind a_with e j ∧ W j = gs_ow a_kind e j) → g = cm_g a_kind (gs_ow a_kind e) g0 i →
    wY_compile_76 post (d + 1) (nI i) f_drafted f_length f_place f_there f_chains f_functions f_generators f_active f_begins f_token f_chain f_how f_sort f_value f_steps f_endSort f_status f_endNumber f_over f_noted a_draftKind a_draftWith a_kind a_with a_above a_as a_part a_open Mn W g a_binder a_outer a_holdsSort a_holds a_fnToken a_fnChain a_state a_gBody a_gChain a_gYield a_closing a_rowOf a_many a_wToken a_wOperand a_wChain a_wSort a_wHow a_wValue a_noteSort a_noteNumber := by
  intro d
  induction d with
  | zero =>
    intro i Mn W g hi hj hg
    have hi : i = nt := by omega
    subst hi
    subst hg
    exact br_t (by rw [el]; exact nI_le (Nat.le_refl _) (by omega)) (hp Mn W hj)
  | succ d ih =>
    intro i Mn W g hi hj hg
    refine br_f (by rw [el]; exact nI_ge (by omega) (by omega)) ?_
    refine cy_look hnt h h0 hA0 hA (by omega) (fun M' W' m1 m2 w1 w2 => nm_r (nI_1 i) (ih (i + 1) M' W' _ (by omega) (fun j hj2 => ?_) ?_))
    · by_cases z : j = i
      · subst z
        exact ⟨m2, w2⟩
      · rw [m1 j z, w1 j z]
        exact hj j (by omega)
    · rw [hg]
      rfl
theorem cy_97 {post : Int32 → SY → Prop} {nt : Nat} (hnt : nt ≤ 48) (el : f_length = nI nt) (hM : ∀ j, j < nt → a_means j = -1 ∨ 0 ≤ a_means j)
    (h0 : (∀ j, j < nt → ¬ cm_U a_kind a_means j) → ∃ n149, wY_compile_149 post f_drafted f_length f_place f_there f_chains f_functions f_generators f_active f_begins f_token f_chain f_how f_sort f_value f_steps f_endSort f_status f_endNumber f_over f_noted a_draftKind a_draftWith a_kind a_with a_above a_as a_part a_open a_means a_own a_yields a_binder a_outer a_holdsSort a_holds a_fnToken a_fnChain a_state a_gBody a_gChain a_gYield a_closing a_rowOf a_many a_wToken a_wOperand a_wChain a_wSort a_wHow a_wValue a_noteSort a_noteNumber n149 0) (h1 : ∀ i, i < nt → cm_U a_kind a_means i → (∀ j, j < i → ¬ cm_U a_kind a_means j) → post 2 (f_drafted, f_length, nI i, f_there, f_chains, f_functions, f_generators, f_active, f_begins, f_token, f_chain, f_how, f_sort, f_value, f_steps, f_endSort, f_status, f_endNumber, f_over, f_noted, a_draftKind, a_draftWith, a_kind, a_with, a_above, a_as, a_part, a_open, a_means, a_own, a_yields, a_binder, a_outer, a_holdsSort, a_holds, a_fnToken, a_fnChain, a_state, a_gBody, a_gChain, a_gYield, a_closing, a_rowOf, a_many, a_wToken, a_wOperand, a_wChain, a_wSort, a_wHow, a_wValue, a_noteSort, a_noteNumber)) :
    ∀ d i, i + d = nt → (∀ j, j < i → ¬ cm_U a_kind a_means j) → wY_compile_97 post f_drafted f_length f_place f_there f_chains f_functions f_generators f_active f_begins f_token f_chain f_how f_sort f_value f_steps f_endSort f_status f_endNumber f_over f_noted a_draftKind a_draftWith a_kind a_with a_above a_as a_part a_open a_means a_own a_yields a_binder a_outer a_holdsSort a_holds a_fnToken a_fnChain a_state a_gBody a_gChain a_gYield a_closing a_rowOf a_many a_wToken a_wOperand a_wChain a_wSort a_wHow a_wValue a_noteSort a_noteNumber (d + 1) (nI i) := by
  intro d
  induction d with
  | zero =>
    intro i hi hj
    have hi : i = nt := by omega
    subst hi
    exact br_t (by rw [el]; exact nI_le (Nat.le_refl _) (by omega)) (h0 hj)
  | succ d ih =>
    intro i hi hj
    have iv : vp_in (nI i) 48 := vp_in_nI (by omega) (by decide)
    have ei : (nI i).toNatClampNeg = i := nI_clamp (by omega)
    have f125 : (a_kind i = 2 ∨ a_kind i = 3) → wY_compile_125 post (wY_compile_97 post f_drafted f_length f_place f_there f_chains f_functions f_generators f_active f_begins f_token f_chain f_how f_sort f_value f_steps f_endSort f_status f_endNumber f_over f_noted a_draftKind a_draftWith a_kind a_with a_above a_as a_part a_open a_means a_own a_yields a_binder a_outer a_holdsSort a_holds a_fnToken a_fnChain a_state a_gBody a_gChain a_gYield a_closing a_rowOf a_many a_wToken a_wOperand a_wChain a_wSort a_wHow a_wValue a_noteSort a_noteNumber (d + 1)) (nI i) f_drafted f_length f_place f_there f_chains f_functions f_generators f_active f_begins f_token f_chain f_how f_sort f_value f_steps f_endSort f_status f_endNumber f_over f_noted a_draftKind a_draftWith a_kind a_with a_above a_as a_part a_open a_means a_own a_yields a_binder a_outer a_holdsSort a_holds a_fnToken a_fnChain a_state a_gBody a_gChain a_gYield a_closing a_rowOf a_many a_wToken a_wOperand a_wChain a_wSort a_wHow a_wValue a_noteSort a_noteNumber := by
      intro c
      refine ⟨iv, ?_⟩
      rw [ei]
      refine br_c (fun z => nm_r (nI_1 i) (ih (i + 1) (by omega) (fun j hj2 => ?_))) (fun z => h1 i (by omega) ⟨c, ?_⟩ hj)
      · by_cases y : j = i
        · subst y
          intro q
          rw [q.2] at z
          exact absurd z (by decide)
        · exact hj j (by omega)
      · rcases hM i (by omega) with q | q
        · exact q
        · exact absurd q z
    refine br_f (by rw [el]; exact nI_ge (by omega) (by omega)) ⟨iv, ?_⟩
    rw [ei]
    refine br_c (fun c2 => f125 (Or.inl c2)) (fun c2 => ⟨iv, br_c (fun c3 => f125 (Or.inr c3)) (fun c3 => nm_r (nI_1 i) (ih (i + 1) (by omega) (fun j hj2 => ?_)))⟩)
    by_cases y : j = i
    · subst y
      exact fun q => by rcases q.1 with q | q; exact c2 q; exact c3 q
    · exact hj j (by omega)
theorem cy_52 {post : Int32 → Prop} {nt : Nat} {e : Nat → Nat} (hnt : nt ≤ 48) (h : tr_T (gs_o nt a_kind) e) (h0 : e 0 = nt) (hA0 : a_above 0 = -1) (hA : ∀ k, 0 < k → k < nt → a_above k = nI (tr_pa e k) ∧ a_as k = nI (tr_ix e k)) :
    ∀ n k, k < nt → k < n → post (if gs_il a_kind e k = true then 0 else 1) → wY_isLost_52 post f_drafted f_length f_place f_there f_chains f_functions f_generators f_active f_begins f_token f_chain f_how f_sort f_value f_steps f_endSort f_status f_endNumber f_over f_noted a_draftKind a_draftWith a_kind a_with a_above a_as a_part a_open a_means a_own a_yields a_binder a_outer a_holdsSort a_holds a_fnToken a_fnChain a_state a_gBody a_gChain a_gYield a_closing a_rowOf a_many a_wToken a_wOperand a_wChain a_wSort a_wHow a_wValue a_noteSort a_noteNumber n (nI k) := by
  intro n
  induction n with
  | zero => intro k _ hn; omega
  | succ n ih =>
    intro k hk hn hp
    have ivk : vp_in (nI k) 49 := vp_in_nI (by omega) (by decide)
    have ek : (nI k).toNatClampNeg = k := nI_clamp (by omega)
    refine ⟨ivk, ?_⟩
    rw [ek]
    by_cases z : k = 0
    · subst z
      rw [hA0]
      exact br_t (by decide) hp
    · have hp2 := tr_pk (k := k) h (gs_o3 nt a_kind) (by omega) (by omega)
      have hil := gs_ilp (K := a_kind) (k := k) h (gs_o3 nt a_kind) (by omega) (by omega)
      have o3 := gs_o3 nt a_kind (tr_pa e k)
      obtain ⟨hAk, hAs⟩ := hA k (by omega) hk
      have ivp : vp_in (nI (tr_pa e k)) 48 := vp_in_nI (by omega) (by decide)
      have ep : (nI (tr_pa e k)).toNatClampNeg = tr_pa e k := nI_clamp (by omega)
      rw [hAk, hAs, ep]
      refine br_f (nI_pos (by omega)) ⟨ivk, ivp, br_c (fun c5 => ?_) (fun c5 => ⟨ivk, ivp, br_c (fun c14 => ⟨ivk, br_c (fun c1 => ?_) (fun c1 => ⟨ivk, nm_e (ih _ (by omega) (by omega) ?_)⟩)⟩) (fun c14 => ⟨ivk, nm_e (ih _ (by omega) (by omega) ?_)⟩)⟩)⟩
      · rw [if_pos c5] at hil
        rw [hil] at hp
        exact hp
      · have c2 : tr_ix e k = 1 := by
          have c3 : nI (tr_ix e k) = nI 1 := c1
          rw [nI_eq (by have := hp2.2.1; omega) (by omega)] at c3
          exact c3
        rw [if_neg c5, if_pos ⟨c14, c2⟩] at hil
        rw [hil] at hp
        exact hp
      · rw [if_neg c5, if_neg (fun q => c1 (by rw [q.2]; rfl))] at hil
        rw [hil] at hp
        exact hp
      · rw [if_neg c5, if_neg (fun q => c14 q.1)] at hil
        rw [hil] at hp
        exact hp
theorem cy_lost {post : Int32 → Prop} {nt i : Nat} {e : Nat → Nat} (hnt : nt ≤ 48) (h : tr_T (gs_o nt a_kind) e) (h0 : e 0 = nt) (hA0 : a_above 0 = -1) (hA : ∀ k, 0 < k → k < nt → a_above k = nI (tr_pa e k) ∧ a_as k = nI (tr_ix e k)) (hi : i < nt) (hW : a_own i = -1 ∨ 0 ≤ a_own i)
    (p1 : cm_O a_kind a_own (gs_il a_kind e) i → post 1) (p0 : ¬ cm_O a_kind a_own (gs_il a_kind e) i → post 0) : wpY_isLost post (f_drafted, f_length, f_place, f_there, f_chains, f_functions, f_generators, f_active, f_begins, f_token, f_chain, f_how, f_sort, f_value, f_steps, f_endSort, f_status, f_endNumber, f_over, f_noted, a_draftKind, a_draftWith, a_kind, a_with, a_above, a_as, a_part, a_open, a_means, a_own, a_yields, a_binder, a_outer, a_holdsSort, a_holds, a_fnToken, a_fnChain, a_state, a_gBody, a_gChain, a_gYield, a_closing, a_rowOf, a_many, a_wToken, a_wOperand, a_wChain, a_wSort, a_wHow, a_wValue, a_noteSort, a_noteNumber) (nI i) := by
  have iv : vp_in (nI i) 48 := vp_in_nI (by omega) (by decide)
  have ei : (nI i).toNatClampNeg = i := nI_clamp (by omega)
  have floop : ¬ a_kind i = 22 → (a_kind i = 16 ∨ a_kind i = 17) → ∃ n52, wY_isLost_52 post f_drafted f_length f_place f_there f_chains f_functions f_generators f_active f_begins f_token f_chain f_how f_sort f_value f_steps f_endSort f_status f_endNumber f_over f_noted a_draftKind a_draftWith a_kind a_with a_above a_as a_part a_open a_means a_own a_yields a_binder a_outer a_holdsSort a_holds a_fnToken a_fnChain a_state a_gBody a_gChain a_gYield a_closing a_rowOf a_many a_wToken a_wOperand a_wChain a_wSort a_wHow a_wValue a_noteSort a_noteNumber n52 (nI i) := by
    intro n22 c
    refine ⟨i + 1, cy_52 hnt h h0 hA0 hA (i + 1) i hi (by omega) ?_⟩
    by_cases z : gs_il a_kind e i = true
    · rw [if_pos z]
      refine p0 ?_
      rintro (q | q)
      · exact n22 q.1
      · rw [z] at q
        exact absurd q.2 (by decide)
    · rw [if_neg z]
      refine p1 (Or.inr ⟨c, ?_⟩)
      cases hb : gs_il a_kind e i
      · rfl
      · exact absurd hb z
  refine ⟨iv, ?_⟩
  rw [ei]
  refine br_c (fun c22 => ⟨iv, br_c (fun z => p0 ?_) (fun z => p1 (Or.inl ⟨c22, ?_⟩))⟩) (fun c22 => ⟨iv, br_c (fun c => floop c22 (Or.inl c)) (fun c16 => ⟨iv, br_c (fun c => floop c22 (Or.inr c)) (fun c17 => p0 ?_)⟩)⟩)
  · rintro (q | q)
    · rw [q.2] at z
      exact absurd z (by decide)
    · rw [c22] at q
      exact absurd q.1 (by decide)
  · rcases hW with q | q
    · exact q
    · exact absurd q z
  · rintro (q | q)
    · exact c22 q.1
    · rcases q.1 with y | y
      · exact c16 y
      · exact c17 y
theorem cy_149 {post : Int32 → SY → Prop} {nt : Nat} {e : Nat → Nat} (hnt : nt ≤ 48) (el : f_length = nI nt) (h : tr_T (gs_o nt a_kind) e) (he : e 0 = nt) (hA0 : a_above 0 = -1) (hA : ∀ k, 0 < k → k < nt → a_above k = nI (tr_pa e k) ∧ a_as k = nI (tr_ix e k)) (hW : ∀ j, j < nt → a_own j = -1 ∨ 0 ≤ a_own j)
    (h0 : (∀ j, j < nt → ¬ cm_O a_kind a_own (gs_il a_kind e) j) → post 0 (f_drafted, f_length, f_place, 1, f_chains, f_functions, f_generators, f_active, f_begins, f_token, f_chain, f_how, f_sort, f_value, f_steps, f_endSort, f_status, f_endNumber, f_over, f_noted, a_draftKind, a_draftWith, a_kind, a_with, a_above, a_as, a_part, a_open, a_means, a_own, a_yields, a_binder, a_outer, a_holdsSort, a_holds, a_fnToken, a_fnChain, a_state, a_gBody, a_gChain, a_gYield, a_closing, a_rowOf, a_many, a_wToken, a_wOperand, a_wChain, a_wSort, a_wHow, a_wValue, a_noteSort, a_noteNumber)) (h1 : ∀ i, i < nt → cm_O a_kind a_own (gs_il a_kind e) i → (∀ j, j < i → ¬ cm_O a_kind a_own (gs_il a_kind e) j) → post 3 (f_drafted, f_length, nI i, f_there, f_chains, f_functions, f_generators, f_active, f_begins, f_token, f_chain, f_how, f_sort, f_value, f_steps, f_endSort, f_status, f_endNumber, f_over, f_noted, a_draftKind, a_draftWith, a_kind, a_with, a_above, a_as, a_part, a_open, a_means, a_own, a_yields, a_binder, a_outer, a_holdsSort, a_holds, a_fnToken, a_fnChain, a_state, a_gBody, a_gChain, a_gYield, a_closing, a_rowOf, a_many, a_wToken, a_wOperand, a_wChain, a_wSort, a_wHow, a_wValue, a_noteSort, a_noteNumber)) :
    ∀ d i, i + d = nt → (∀ j, j < i → ¬ cm_O a_kind a_own (gs_il a_kind e) j) → wY_compile_149 post f_drafted f_length f_place f_there f_chains f_functions f_generators f_active f_begins f_token f_chain f_how f_sort f_value f_steps f_endSort f_status f_endNumber f_over f_noted a_draftKind a_draftWith a_kind a_with a_above a_as a_part a_open a_means a_own a_yields a_binder a_outer a_holdsSort a_holds a_fnToken a_fnChain a_state a_gBody a_gChain a_gYield a_closing a_rowOf a_many a_wToken a_wOperand a_wChain a_wSort a_wHow a_wValue a_noteSort a_noteNumber (d + 1) (nI i) := by
  intro d
  induction d with
  | zero =>
    intro i hi hj
    have hi : i = nt := by omega
    subst hi
    exact br_t (by rw [el]; exact nI_le (Nat.le_refl _) (by omega)) (h0 hj)
  | succ d ih =>
    intro i hi hj
    refine br_f (by rw [el]; exact nI_ge (by omega) (by omega)) ?_
    refine cy_lost hnt h he hA0 hA (by omega) (hW i (by omega)) (fun c => br_f (by decide) (h1 i (by omega) c hj)) (fun c => br_t rfl (nm_r (nI_1 i) (ih (i + 1) (by omega) (fun j hj2 => ?_))))
    by_cases y : j = i
    · subst y
      exact c
    · exact hj j (by omega)
theorem cy_19 {post : Int32 → SY → Prop} {nt : Nat} (hnt : nt ≤ 48) (el : f_length = nI nt) (hp : ∀ K' O' : Nat → Int32, (∀ j, j < nt → K' j = a_draftKind j ∧ O' j = a_draftWith j) →
      wpY_shape (fun r_55 u => match u with | (f_drafted, f_length, f_place, f_there, f_chains, f_functions, f_generators, f_active, f_begins, f_token, f_chain, f_how, f_sort, f_value, f_steps, f_endSort, f_status, f_endNumber, f_over, f_noted, a_draftKind, a_draftWith, a_kind, a_with, a_above, a_as, a_part, a_open, a_means, a_own, a_yields, a_binder, a_outer, a_holdsSort, a_holds, a_fnToken, a_fnChain, a_state, a_gBody, a_gChain, a_gYield, a_closing, a_rowOf, a_many, a_wToken, a_wOperand, a_wChain, a_wSort, a_wHow, a_wValue, a_noteSort, a_noteNumber) => (((r_55 < 0 → (∃ n76 : Nat, wY_compile_76 post n76 0 f_drafted f_length r_55 f_there f_chains f_functions f_generators f_active f_begins f_token f_chain f_how f_sort f_value f_steps f_endSort f_status f_endNumber f_over f_noted a_draftKind a_draftWith a_kind a_with a_above a_as a_part a_open a_means a_own a_yields a_binder a_outer a_holdsSort a_holds a_fnToken a_fnChain a_state a_gBody a_gChain a_gYield a_closing a_rowOf a_many a_wToken a_wOperand a_wChain a_wSort a_wHow a_wValue a_noteSort a_noteNumber)) ∧ (¬ r_55 < 0 → (post 1 (f_drafted, f_length, r_55, f_there, f_chains, f_functions, f_generators, f_active, f_begins, f_token, f_chain, f_how, f_sort, f_value, f_steps, f_endSort, f_status, f_endNumber, f_over, f_noted, a_draftKind, a_draftWith, a_kind, a_with, a_above, a_as, a_part, a_open, a_means, a_own, a_yields, a_binder, a_outer, a_holdsSort, a_holds, a_fnToken, a_fnChain, a_state, a_gBody, a_gChain, a_gYield, a_closing, a_rowOf, a_many, a_wToken, a_wOperand, a_wChain, a_wSort, a_wHow, a_wValue, a_noteSort, a_noteNumber)))))) (f_drafted, f_length, f_place, f_there, f_chains, f_functions, f_generators, f_active, f_begins, f_token, f_chain, f_how, f_sort, f_value, f_steps, f_endSort, f_status, f_endNumber, f_over, f_noted, a_draftKind, a_draftWith, K', O', a_above, a_as, a_part, a_open, a_means, a_own, a_yields, a_binder, a_outer, a_holdsSort, a_holds, a_fnToken, a_fnChain, a_state, a_gBody, a_gChain, a_gYield, a_closing, a_rowOf, a_many, a_wToken, a_wOperand, a_wChain, a_wSort, a_wHow, a_wValue, a_noteSort, a_noteNumber)) :
    ∀ d i (K O : Nat → Int32), i + d = nt → (∀ j, j < i → K j = a_draftKind j ∧ O j = a_draftWith j) → wY_compile_19 post f_drafted f_length f_place f_there f_chains f_functions f_generators f_active f_begins f_token f_chain f_how f_sort f_value f_steps f_endSort f_status f_endNumber f_over f_noted (d + 1) (nI i) a_draftKind a_draftWith K O a_above a_as a_part a_open a_means a_own a_yields a_binder a_outer a_holdsSort a_holds a_fnToken a_fnChain a_state a_gBody a_gChain a_gYield a_closing a_rowOf a_many a_wToken a_wOperand a_wChain a_wSort a_wHow a_wValue a_noteSort a_noteNumber := by
  intro d
  induction d with
  | zero =>
    intro i K O hi hj
    have hi : i = nt := by omega
    subst hi
    exact br_t (by rw [el]; exact nI_le (Nat.le_refl _) (by omega)) (hp K O hj)
  | succ d ih =>
    intro i K O hi hj
    have iv : vp_in (nI i) 48 := vp_in_nI (by omega) (by decide)
    have ei : (nI i).toNatClampNeg = i := nI_clamp (by omega)
    refine br_f (by rw [el]; exact nI_ge (by omega) (by omega)) ⟨iv, iv, nm_r (e' := upd K i (a_draftKind i)) (by rw [ei]) ⟨iv, iv, nm_r (e' := upd O i (a_draftWith i)) (by rw [ei]) (nm_r (nI_1 i) (ih (i + 1) _ _ (by omega) ?_))⟩⟩
    intro j hj2
    by_cases z : j = i
    · subst z
      rw [pk_us, pk_us]
      exact ⟨rfl, rfl⟩
    · rw [pk_un z, pk_un z]
      exact hj j (by omega)
end
end
section
theorem cc_o {nt : Nat} {K K' : Nat → Int32} (h : ∀ j, j < nt → K' j = K j) : gs_o nt K' = gs_o nt K := by
  funext i
  unfold gs_o
  split
  · rename_i c
    rw [h i c]
  · rfl
theorem cc_all {nt : Nat} {K K' : Nat → Int32} {e : Nat → Nat} (hK : ∀ j, j < nt → K' j = K j) (h : tr_T (gs_o nt K) e) (h0 : e 0 = nt) : ∀ k, k < nt → gs_sc K' e k = gs_sc K e k ∧ gs_il K' e k = gs_il K e k ∧ gs_ow K' e k = gs_ow K e k := by
  have h' : tr_T (gs_o nt K') e := by rw [cc_o hK]; exact h
  intro k
  induction k using Nat.strongRecOn with
  | ind k ih =>
    intro hk
    by_cases z : k = 0
    · subst z
      exact ⟨rfl, rfl, rfl⟩
    · have hp := tr_pk (k := k) h (gs_o3 nt K) (by omega) (by omega)
      have q := ih _ hp.1 (by omega)
      have ek := hK (tr_pa e k) (by omega)
      rw [gs_scp (K := K') (k := k) h' (gs_o3 nt K') (by omega) (by omega), gs_scp (K := K) (k := k) h (gs_o3 nt K) (by omega) (by omega),
        gs_ilp (K := K') (k := k) h' (gs_o3 nt K') (by omega) (by omega), gs_ilp (K := K) (k := k) h (gs_o3 nt K) (by omega) (by omega),
        gs_owp (K := K') (k := k) h' (gs_o3 nt K') (by omega) (by omega), gs_owp (K := K) (k := k) h (gs_o3 nt K) (by omega) (by omega), ek, q.1, q.2.1, q.2.2]
      exact ⟨rfl, rfl, rfl⟩
theorem cc_fb {O O' : Nat → Int32} {nm : Int32} : ∀ l, (∀ b, b ∈ l → O' b = O b) → cm_fb O' nm l = cm_fb O nm l := by
  intro l
  induction l with
  | nil => intro _; rfl
  | cons b l ih =>
    intro h
    show (if O' b = nm then nI b else cm_fb O' nm l) = (if O b = nm then nI b else cm_fb O nm l)
    rw [h b (List.mem_cons_self ..), ih (fun b' hb => h b' (List.mem_cons_of_mem _ hb))]
theorem cc_m {nt : Nat} {K K' O O' : Nat → Int32} {e : Nat → Nat} (hK : ∀ j, j < nt → K' j = K j) (hO : ∀ j, j < nt → O' j = O j) (h : tr_T (gs_o nt K) e) (h0 : e 0 = nt) : ∀ k, k < nt → cm_m K' O' e k = cm_m K O e k := by
  intro k hk
  unfold cm_m
  rw [hK k hk, hO k hk, (cc_all hK h h0 k hk).1, cc_fb]
  intro b hb
  exact hO b (by have := (gs_scm h (gs_o3 nt K) k (by omega) b hb).1; omega)
section
variable {f_tokenCount f_scriptSize f_saidPlace f_activationCount f_variableCount f_functionCount f_generatorCount f_ending f_valueSort : Int32} {f_valueNumber : Int64} {f_noteCount f_stepCount f_latestRun : Int32} {a_tokenKinds a_tokenOperands a_kinds a_operands a_parents a_behind a_ownFns a_meanings a_generatorFns a_frameTokens a_frameStages a_frameScopes a_keptEndings a_keptSorts : Nat → Int32} {a_keptNumbers : Nat → Int64} {a_frameCounts a_activeSlots a_variableBinders a_variableOuters a_variableSorts : Nat → Int32} {a_variableNumbers : Nat → Int64} {a_functionTokens a_functionScopes a_generatorStates a_noteSorts : Nat → Int32} {a_noteNumbers : Nat → Int64}
theorem cc_X {post : Int32 → SX → Prop} {nt : Nat} {e : Nat → Nat} (hnt : nt ≤ 48) (et : f_tokenCount = nI nt) (hkd : ∀ i, i < nt → ∃ k, k < 27 ∧ a_tokenKinds i = nI k) (h : tr_T (gs_o nt a_tokenKinds) e)
    (pB : e 0 ≠ nt → post 1 (nI nt, 0, cm_pl (e 0) nt, 0, 0, 0, 0, f_ending, f_valueSort, f_valueNumber, 0, 0, -1, a_tokenKinds, a_tokenOperands, a_kinds, a_operands, a_parents, a_behind, a_ownFns, a_meanings, a_generatorFns, a_frameTokens, a_frameStages, a_frameScopes, a_keptEndings, a_keptSorts, a_keptNumbers, a_frameCounts, a_activeSlots, a_variableBinders, a_variableOuters, a_variableSorts, a_variableNumbers, a_functionTokens, a_functionScopes, a_generatorStates, a_noteSorts, a_noteNumbers))
    (pG : e 0 = nt → ∀ K O P b W M : Nat → Int32, (∀ j, j < nt → K j = a_tokenKinds j ∧ O j = a_tokenOperands j ∧ b j = nI (e j) ∧ W j = gs_ow K e j ∧ M j = cm_m K O e j) →
      (∀ i, i < nt → cm_U K M i → (∀ j, j < i → ¬ cm_U K M j) → post 2 (nI nt, 0, nI i, 0, 0, 0, 0, f_ending, f_valueSort, f_valueNumber, 0, 0, -1, a_tokenKinds, a_tokenOperands, K, O, P, b, W, M, cm_g K (gs_ow K e) a_generatorFns nt, a_frameTokens, a_frameStages, a_frameScopes, a_keptEndings, a_keptSorts, a_keptNumbers, a_frameCounts, a_activeSlots, a_variableBinders, a_variableOuters, a_variableSorts, a_variableNumbers, a_functionTokens, a_functionScopes, a_generatorStates, a_noteSorts, a_noteNumbers)) ∧
      ((∀ j, j < nt → ¬ cm_U K M j) → (∀ i, i < nt → cm_O K W (gs_il K e) i → (∀ j, j < i → ¬ cm_O K W (gs_il K e) j) → post 3 (nI nt, 0, nI i, 0, 0, 0, 0, f_ending, f_valueSort, f_valueNumber, 0, 0, -1, a_tokenKinds, a_tokenOperands, K, O, P, b, W, M, cm_g K (gs_ow K e) a_generatorFns nt, a_frameTokens, a_frameStages, a_frameScopes, a_keptEndings, a_keptSorts, a_keptNumbers, a_frameCounts, a_activeSlots, a_variableBinders, a_variableOuters, a_variableSorts, a_variableNumbers, a_functionTokens, a_functionScopes, a_generatorStates, a_noteSorts, a_noteNumbers)) ∧
        ((∀ j, j < nt → ¬ cm_O K W (gs_il K e) j) → post 0 (nI nt, nI nt, -1, 0, 0, 0, 0, f_ending, f_valueSort, f_valueNumber, 0, 0, -1, a_tokenKinds, a_tokenOperands, K, O, P, b, W, M, cm_g K (gs_ow K e) a_generatorFns nt, a_frameTokens, a_frameStages, a_frameScopes, a_keptEndings, a_keptSorts, a_keptNumbers, a_frameCounts, a_activeSlots, a_variableBinders, a_variableOuters, a_variableSorts, a_variableNumbers, a_functionTokens, a_functionScopes, a_generatorStates, a_noteSorts, a_noteNumbers)))) : wpX_compile post (f_tokenCount, f_scriptSize, f_saidPlace, f_activationCount, f_variableCount, f_functionCount, f_generatorCount, f_ending, f_valueSort, f_valueNumber, f_noteCount, f_stepCount, f_latestRun, a_tokenKinds, a_tokenOperands, a_kinds, a_operands, a_parents, a_behind, a_ownFns, a_meanings, a_generatorFns, a_frameTokens, a_frameStages, a_frameScopes, a_keptEndings, a_keptSorts, a_keptNumbers, a_frameCounts, a_activeSlots, a_variableBinders, a_variableOuters, a_variableSorts, a_variableNumbers, a_functionTokens, a_functionScopes, a_generatorStates, a_noteSorts, a_noteNumbers) := by
  subst et
  unfold wpX_compile wpX_forgetRun
  refine cx_shape hnt rfl hkd h ?_
  by_cases he : e 0 = nt
  · rw [cm_pl0 he]
    refine br_t rfl ?_
    refine cx_copy hnt rfl (fun K O hKO => ?_)
    have hn0 : 0 < nt := by have := h.2 0; omega
    have hK : ∀ j, j < nt → K j = a_tokenKinds j := fun j hj => (hKO j hj).1
    have h' : tr_T (gs_o nt K) e := by rw [cc_o hK]; exact h
    refine cx_link hnt hn0 rfl h' (gs_o3 nt K) he ?_ (fun P b hP hb => ?_)
    · intro i hi
      obtain ⟨k, hk27, hk⟩ := hkd i hi
      exact ⟨k, hk27, by rw [hK i hi]; exact hk, by rw [gs_oi nt K i hi, hK i hi, hk]⟩
    · have hP2 : ∀ k, 0 < k → k < nt → P k = nI (tr_pa e k) := by
        intro k h1 h2
        have hp := tr_pk (k := k) h' (gs_o3 nt K) h1 (by omega)
        have := hP.2 (tr_pa e k) (tr_ix e k) (Nat.zero_le _) (by omega) hp.2.1
        rw [hp.2.2] at this
        exact this
      refine cx_own hnt rfl h' he hP.1 hP2 (fun W hW => ?_)
      refine cx_mean hnt rfl h' he hP.1 hP2 (fun M hM => ?_)
      have G := pG he K O P b W M (fun j hj => ⟨(hKO j hj).1, (hKO j hj).2, hb j hj, hW j hj, hM j hj⟩)
      refine cx_unb hnt rfl (fun nU => br_t rfl ?_) (fun i hi hU hmin => br_f (fun z => rt_m1 (by omega) z.symm) (G.1 i hi hU hmin))
      refine cx_out hnt rfl h' he hP.1 hP2 (fun nO => br_t rfl ((G.2 nU).2 nO)) (fun i hi hO hmin => br_f (fun z => rt_m1 (by omega) z.symm) ((G.2 nU).1 i hi hO hmin))
  · have pB := pB he
    refine br_f ?_ pB
    unfold cm_pl
    rw [if_neg he]
    split
    · exact fun z => rt_m1 (by omega) z.symm
    · exact fun z => rt_m1 (by omega) z.symm
end
section
variable {f_drafted f_length f_place f_there f_chains f_functions f_generators f_active f_begins f_token f_chain f_how f_sort : Int32} {f_value : Int64} {f_steps f_endSort f_status : Int32} {f_endNumber : Int64} {f_over f_noted : Int32} {a_draftKind a_draftWith a_kind a_with a_above a_as a_part a_open a_means a_own a_yields a_binder a_outer a_holdsSort : Nat → Int32} {a_holds : Nat → Int64} {a_fnToken a_fnChain a_state a_gBody a_gChain a_gYield a_closing a_rowOf a_many a_wToken a_wOperand a_wChain a_wSort a_wHow : Nat → Int32} {a_wValue : Nat → Int64} {a_noteSort : Nat → Int32} {a_noteNumber : Nat → Int64}
theorem cc_Y {post : Int32 → SY → Prop} {nt : Nat} {e : Nat → Nat} (hnt : nt ≤ 48) (et : f_drafted = nI nt) (hkd : ∀ i, i < nt → ∃ k, k < 27 ∧ a_draftKind i = nI k) (h : tr_T (gs_o nt a_draftKind) e)
    (pB : e 0 ≠ nt → ∀ K O ab as pt op : Nat → Int32, post 1 (nI nt, nI nt, cm_pl (e 0) nt, 0, 0, 0, 0, 0, f_begins, f_token, f_chain, f_how, f_sort, f_value, 0, -1, f_status, 0, f_over, 0, a_draftKind, a_draftWith, K, O, ab, as, pt, op, a_means, a_own, a_yields, a_binder, a_outer, a_holdsSort, a_holds, a_fnToken, a_fnChain, a_state, a_gBody, a_gChain, a_gYield, a_closing, a_rowOf, a_many, a_wToken, a_wOperand, a_wChain, a_wSort, a_wHow, a_wValue, a_noteSort, a_noteNumber))
    (pG : e 0 = nt → ∀ K O ab as pt op W M : Nat → Int32, (∀ j, j < nt → K j = a_draftKind j ∧ O j = a_draftWith j ∧ W j = gs_ow K e j ∧ M j = cm_m K O e j) → cy_I nt K e nt ab as pt →
      (∀ i, i < nt → cm_U K M i → (∀ j, j < i → ¬ cm_U K M j) → post 2 (nI nt, nI nt, nI i, 0, 0, 0, 0, 0, f_begins, f_token, f_chain, f_how, f_sort, f_value, 0, -1, f_status, 0, f_over, 0, a_draftKind, a_draftWith, K, O, ab, as, pt, op, M, W, cm_g K (gs_ow K e) a_yields nt, a_binder, a_outer, a_holdsSort, a_holds, a_fnToken, a_fnChain, a_state, a_gBody, a_gChain, a_gYield, a_closing, a_rowOf, a_many, a_wToken, a_wOperand, a_wChain, a_wSort, a_wHow, a_wValue, a_noteSort, a_noteNumber)) ∧
      ((∀ j, j < nt → ¬ cm_U K M j) → (∀ i, i < nt → cm_O K W (gs_il K e) i → (∀ j, j < i → ¬ cm_O K W (gs_il K e) j) → post 3 (nI nt, nI nt, nI i, 0, 0, 0, 0, 0, f_begins, f_token, f_chain, f_how, f_sort, f_value, 0, -1, f_status, 0, f_over, 0, a_draftKind, a_draftWith, K, O, ab, as, pt, op, M, W, cm_g K (gs_ow K e) a_yields nt, a_binder, a_outer, a_holdsSort, a_holds, a_fnToken, a_fnChain, a_state, a_gBody, a_gChain, a_gYield, a_closing, a_rowOf, a_many, a_wToken, a_wOperand, a_wChain, a_wSort, a_wHow, a_wValue, a_noteSort, a_noteNumber)) ∧
        ((∀ j, j < nt → ¬ cm_O K W (gs_il K e) j) → post 0 (nI nt, nI nt, -1, 1, 0, 0, 0, 0, f_begins, f_token, f_chain, f_how, f_sort, f_value, 0, -1, f_status, 0, f_over, 0, a_draftKind, a_draftWith, K, O, ab, as, pt, op, M, W, cm_g K (gs_ow K e) a_yields nt, a_binder, a_outer, a_holdsSort, a_holds, a_fnToken, a_fnChain, a_state, a_gBody, a_gChain, a_gYield, a_closing, a_rowOf, a_many, a_wToken, a_wOperand, a_wChain, a_wSort, a_wHow, a_wValue, a_noteSort, a_noteNumber)))) : wpY_compile post (f_drafted, f_length, f_place, f_there, f_chains, f_functions, f_generators, f_active, f_begins, f_token, f_chain, f_how, f_sort, f_value, f_steps, f_endSort, f_status, f_endNumber, f_over, f_noted, a_draftKind, a_draftWith, a_kind, a_with, a_above, a_as, a_part, a_open, a_means, a_own, a_yields, a_binder, a_outer, a_holdsSort, a_holds, a_fnToken, a_fnChain, a_state, a_gBody, a_gChain, a_gYield, a_closing, a_rowOf, a_many, a_wToken, a_wOperand, a_wChain, a_wSort, a_wHow, a_wValue, a_noteSort, a_noteNumber) := by
  subst et
  unfold wpY_compile wpY_forget
  refine ⟨nt + 1, ?_⟩
  refine cy_19 hnt rfl (fun K O hKO => ?_) nt 0 a_kind a_with (by omega) (fun j hj => absurd hj (Nat.not_lt_zero _))
  have hK : ∀ j, j < nt → K j = a_draftKind j := fun j hj => (hKO j hj).1
  have h' : tr_T (gs_o nt K) e := by rw [cc_o hK]; exact h
  refine cy_shape hnt rfl (fun i hi => by rw [hK i hi]; exact hkd i hi) h' (fun ab as pt op hI => ?_)
  by_cases he : e 0 = nt
  · have hI := hI he
    have hn0 : 0 < nt := by have := h.2 0; omega
    rw [cm_pl0 he]
    refine br_t (by decide) ⟨nt + 1, ?_⟩
    have hA : ∀ k, 0 < k → k < nt → ab k = nI (tr_pa e k) ∧ as k = nI (tr_ix e k) := hI.2.1
    refine cy_76 (g0 := a_yields) hnt rfl h' he (hI.1 hn0) hA (fun M W hMW => ?_) nt 0 a_means a_own a_yields (by omega) (fun j hj => absurd hj (Nat.not_lt_zero _)) rfl
    have G := pG he K O ab as pt op W M (fun j hj => ⟨(hKO j hj).1, (hKO j hj).2, (hMW j hj).2, (hMW j hj).1⟩) hI
    have hM : ∀ j, j < nt → M j = -1 ∨ 0 ≤ M j := by
      intro j hj
      rw [(hMW j hj).1]
      unfold cm_m
      split
      · rcases cm_fb1 O (O j) (gs_sc K e j) with q | ⟨b, hb, q⟩
        · exact Or.inl q
        · rw [q]
          exact Or.inr (nI_pos' (by have := (gs_scm h' (gs_o3 nt K) j (by omega) b hb).1; omega))
      · exact Or.inl rfl
    have hW : ∀ j, j < nt → W j = -1 ∨ 0 ≤ W j := by
      intro j hj
      rw [(hMW j hj).2]
      rcases cm_ow h' he j hj with q | ⟨f, hf, q, _⟩
      · exact Or.inl q
      · rw [q]
        exact Or.inr (nI_pos' (by omega))
    refine ⟨nt + 1, cy_97 hnt rfl hM (fun nU => ⟨nt + 1, ?_⟩) (fun i hi hU hmin => G.1 i hi hU hmin) nt 0 (by omega) (fun j hj => absurd hj (Nat.not_lt_zero _))⟩
    exact cy_149 hnt rfl h' he (hI.1 hn0) hA hW (fun nO => (G.2 nU).2 nO) (fun i hi hO hmin => (G.2 nU).1 i hi hO hmin) nt 0 (by omega) (fun j hj => absurd hj (Nat.not_lt_zero _))
  · refine br_f ?_ (pB he K O ab as pt op)
    unfold cm_pl
    rw [if_neg he]
    split
    · exact nI_pos (by have := hnt; omega)
    · exact nI_pos (by omega)
end
end
section
section
variable {nt : Nat} {e : Nat → Nat} {TK TO K O b W M K2 O2 ab as pt W2 M2 : Nat → Int32}
theorem cc_cong (h : tr_T (gs_o nt TK) e) (he : e 0 = nt) (hX : ∀ j, j < nt → K j = TK j ∧ O j = TO j ∧ b j = nI (e j) ∧ W j = gs_ow K e j ∧ M j = cm_m K O e j)
    (hY : ∀ j, j < nt → K2 j = TK j ∧ O2 j = TO j ∧ W2 j = gs_ow K2 e j ∧ M2 j = cm_m K2 O2 e j) :
    tr_T (gs_o nt K) e ∧ ∀ j, j < nt → K2 j = K j ∧ O2 j = O j ∧ W2 j = W j ∧ M2 j = M j ∧ gs_il K2 e j = gs_il K e j ∧ gs_ow K2 e j = gs_ow K e j := by
  have h' : tr_T (gs_o nt K) e := by rw [cc_o (fun j hj => (hX j hj).1)]; exact h
  have hK : ∀ j, j < nt → K2 j = K j := fun j hj => by rw [(hX j hj).1, (hY j hj).1]
  have hO : ∀ j, j < nt → O2 j = O j := fun j hj => by rw [(hX j hj).2.1, (hY j hj).2.1]
  refine ⟨h', fun j hj => ⟨hK j hj, hO j hj, ?_, ?_, (cc_all hK h' he j hj).2.1, (cc_all hK h' he j hj).2.2⟩⟩
  · rw [(hY j hj).2.2.1, (hX j hj).2.2.2.1, (cc_all hK h' he j hj).2.2]
  · rw [(hY j hj).2.2.2, (hX j hj).2.2.2.2, cc_m hK hO h' he j hj]
theorem cc_U {j : Nat} (h1 : K2 j = K j) (h2 : M2 j = M j) : cm_U K2 M2 j ↔ cm_U K M j := by
  unfold cm_U
  rw [h1, h2]
theorem cc_O {j : Nat} {il il2 : Nat → Bool} (h1 : K2 j = K j) (h2 : W2 j = W j) (h3 : il2 j = il j) : cm_O K2 W2 il2 j ↔ cm_O K W il j := by
  unfold cm_O
  rw [h1, h2, h3]
theorem cc_first {P Q : Nat → Prop} (hPQ : ∀ j, j < nt → (P j ↔ Q j)) {i i2 : Nat} (hi : i < nt) (hi2 : i2 < nt) (h1 : Q i) (h2 : ∀ j, j < i → ¬ Q j) (h3 : P i2) (h4 : ∀ j, j < i2 → ¬ P j) : i2 = i := by
  by_cases a : i2 < i
  · exact absurd ((hPQ i2 hi2).mp h3) (h2 i2 a)
  · by_cases c : i < i2
    · exact absurd ((hPQ i hi).mpr h1) (h4 i c)
    · omega
theorem cc_T {g0 g1 : Nat → Int32} (hnt : nt ≤ 48) (hkd : ∀ i, i < nt → ∃ k, k < 27 ∧ TK i = nI k) (h : tr_T (gs_o nt TK) e) (he : e 0 = nt) (hX : ∀ j, j < nt → K j = TK j ∧ O j = TO j ∧ b j = nI (e j) ∧ W j = gs_ow K e j ∧ M j = cm_m K O e j)
    (hY : ∀ j, j < nt → K2 j = TK j ∧ O2 j = TO j ∧ W2 j = gs_ow K2 e j ∧ M2 j = cm_m K2 O2 e j) (hI : cy_I nt K2 e nt ab as pt) (nU : ∀ j, j < nt → ¬ cm_U K M j) (nO : ∀ j, j < nt → ¬ cm_O K W (gs_il K e) j) :
    il_T nt K O b W M (cm_g K (gs_ow K e) g0 nt) K2 O2 ab pt M2 W2 (cm_g K2 (gs_ow K2 e) g1 nt) := by
  obtain ⟨h', cg⟩ := cc_cong h he hX hY
  have hn0 : 0 < nt := by have := h.2 0; omega
  have hOW := cm_ow h' he
  have hmn : ∀ i, i < nt → M i = -1 ∨ ∃ b, b ∈ gs_sc K e i ∧ M i = nI b := by
    intro i hi
    rw [(hX i hi).2.2.2.2]
    unfold cm_m
    split
    · exact cm_fb1 O (O i) (gs_sc K e i)
    · exact Or.inl rfl
  refine ⟨(nt, K, gs_o nt K, e, gs_sc K e, gs_il K e, gs_ow K e, M, cm_g K (gs_ow K e) g0 nt, O), gs_make h' he hnt ?_ ?_ ?_ ?_ ?_, ⟨gs_o3 nt K, ?_, hmn, ?_⟩, rfl, rfl, rfl, rfl, rfl, fun i hi => (hX i hi).2.2.1, fun i hi => (hX i hi).2.2.2.1, ?_, ?_, ?_, hI.1 hn0, fun i h1 h2 => (hI.2.1 i h1 h2).1⟩
  · intro i hi
    rw [(hX i hi).1]
    exact hkd i hi
  · intro i hi c
    rcases hmn i hi with q | q
    · exact absurd ⟨c, q⟩ (nU i hi)
    · exact q
  · intro i hi c
    cases q : gs_il K e i
    · exact absurd (Or.inr ⟨c, q⟩) (nO i hi)
    · rfl
  · intro i hi c
    rcases hOW i hi with q | ⟨f, hf, q, _⟩
    · exact absurd (Or.inl ⟨c, by rw [(hX i hi).2.2.2.1]; exact q⟩) (nO i hi)
    · exact ⟨f, by omega, q, cm_gy hnt hOW hi c q hf⟩
  · intro i hi
    exact (cm_g01 hnt hOW nt (Nat.le_refl _) i hi).1
  · intro i hi
    exact (cm_g01 hnt hOW nt (Nat.le_refl _) i hi).2
  · intro i hi b hb
    exact gs_scm h' (gs_o3 nt K) i (by rw [he]; exact hi) b hb
  · intro i hi
    have c := cg i hi
    refine ⟨c.1, c.2.1, c.2.2.2.1, ?_⟩
    show cm_g K2 (gs_ow K2 e) g1 nt i = cm_g K (gs_ow K e) g0 nt i
    rw [cm_gc (K := K2) (K' := K) (w := gs_ow K2 e) (w' := gs_ow K e) nt (fun j hj => ⟨(cg j hj).1, (cg j hj).2.2.2.2.2⟩)]
    exact cm_ge nt i hi
  · intro i j hi hj
    have hj2 : j < gs_o nt K i := hj
    have hin := tr_cin h' hj2
    have hne := tr_nest h' _ 0 i (Nat.le_refl _) (by omega) (by rw [he]; exact hi)
    have hj3 : j < gs_o nt K2 i := by
      rw [gs_oi nt K2 i hi, (cg i hi).1, ← gs_oi nt K i hi]
      exact hj2
    exact (hI.2.2 i j hi hj3).1 (by omega)
  · intro i hi
    show W2 i = gs_ow K e i
    rw [(cg i hi).2.2.1]
    exact (hX i hi).2.2.2.1
end
theorem i_vc_compile {k : Nat} {u : SX} {v : SY} (I : i_Rel k u v) (hk : k + 3 ≤ 1536) : wpX_compile (fun r u' => wpY_compile (fun r' v' => r' = r ∧ i_Rel (k + 3) u' v') v) u := by
  obtain ⟨f_tokenCount, f_scriptSize, f_saidPlace, f_activationCount, f_variableCount, f_functionCount, f_generatorCount, f_ending, f_valueSort, f_valueNumber, f_noteCount, f_stepCount, f_latestRun, a_tokenKinds, a_tokenOperands, a_kinds, a_operands, a_parents, a_behind, a_ownFns, a_meanings, a_generatorFns, a_frameTokens, a_frameStages, a_frameScopes, a_keptEndings, a_keptSorts, a_keptNumbers, a_frameCounts, a_activeSlots, a_variableBinders, a_variableOuters, a_variableSorts, a_variableNumbers, a_functionTokens, a_functionScopes, a_generatorStates, a_noteSorts, a_noteNumbers⟩ := u
  obtain ⟨f_drafted, f_length, f_place, f_there, f_chains, f_functions, f_generators, f_active, f_begins, f_token, f_chain, f_how, f_sort, f_value, f_steps, f_endSort, f_status, f_endNumber, f_over, f_noted, a_draftKind, a_draftWith, a_kind, a_with, a_above, a_as, a_part, a_open, a_means, a_own, a_yields, a_binder, a_outer, a_holdsSort, a_holds, a_fnToken, a_fnChain, a_state, a_gBody, a_gChain, a_gYield, a_closing, a_rowOf, a_many, a_wToken, a_wOperand, a_wChain, a_wSort, a_wHow, a_wValue, a_noteSort, a_noteNumber⟩ := v
  have I0 : il_R (f_tokenCount, f_scriptSize, f_saidPlace, f_activationCount, f_variableCount, f_functionCount, f_generatorCount, f_ending, f_valueSort, f_valueNumber, f_noteCount, f_stepCount, f_latestRun, a_tokenKinds, a_tokenOperands, a_kinds, a_operands, a_parents, a_behind, a_ownFns, a_meanings, a_generatorFns, a_frameTokens, a_frameStages, a_frameScopes, a_keptEndings, a_keptSorts, a_keptNumbers, a_frameCounts, a_activeSlots, a_variableBinders, a_variableOuters, a_variableSorts, a_variableNumbers, a_functionTokens, a_functionScopes, a_generatorStates, a_noteSorts, a_noteNumbers) (f_drafted, f_length, f_place, f_there, f_chains, f_functions, f_generators, f_active, f_begins, f_token, f_chain, f_how, f_sort, f_value, f_steps, f_endSort, f_status, f_endNumber, f_over, f_noted, a_draftKind, a_draftWith, a_kind, a_with, a_above, a_as, a_part, a_open, a_means, a_own, a_yields, a_binder, a_outer, a_holdsSort, a_holds, a_fnToken, a_fnChain, a_state, a_gBody, a_gChain, a_gYield, a_closing, a_rowOf, a_many, a_wToken, a_wOperand, a_wChain, a_wSort, a_wHow, a_wValue, a_noteSort, a_noteNumber) := I
  obtain ⟨⟨nt, hnt, rfl, rfl, hkd⟩, rfl, rfl, rfl, hT, ⟨rfl, rfl, rfl, rfl, rfl, rfl⟩, ⟨rfl, rfl, rfl, rfl⟩, ⟨gc, hgc, rfl, rfl, hG⟩, hE⟩ := I
  obtain ⟨e, h⟩ := tr_ex (gs_o nt a_draftKind) nt (gs_o0 nt a_draftKind)
  have hE0 : il_E (-1) f_valueSort f_valueNumber a_fnToken (-1) 0 := Or.inl ⟨⟨by decide, by decide⟩, rfl, rfl⟩
  have hG0 : ∃ gc, gc ≤ 8 ∧ (0 : Int32) = nI gc ∧ (0 : Int32) = nI gc ∧ il_G gc a_generatorStates a_frameTokens a_frameCounts a_state a_closing a_gYield := ⟨0, by decide, rfl, rfl, fun g hg => absurd hg (Nat.not_lt_zero _)⟩
  refine cc_X hnt rfl hkd h (fun ne => ?_) (fun he K O P b W M hX => ⟨fun i hi hU hmin => ?_, fun nU => ⟨fun i hi hO hmin => ?_, fun nO => ?_⟩⟩)
  · refine cc_Y hnt rfl hkd h (fun _ K O ab as pt op => ⟨rfl, ?_⟩) (fun z => absurd z ne)
    exact ⟨⟨nt, hnt, rfl, rfl, hkd⟩, rfl, rfl, rfl, Or.inl ⟨rfl, rfl⟩, ⟨rfl, rfl, rfl, rfl, rfl, rfl⟩, ⟨rfl, rfl, rfl, rfl⟩, hG0, hE0⟩
  · refine cc_Y hnt rfl hkd h (fun z => absurd he z) (fun _ K2 O2 ab as pt op W2 M2 hY hI => ?_)
    obtain ⟨h', cg⟩ := cc_cong h he hX hY
    have iff := fun j (hj : j < nt) => cc_U (cg j hj).1 (cg j hj).2.2.2.1
    refine ⟨fun i2 hi2 hU2 hmin2 => ?_, fun nU2 => absurd ((iff i hi).mpr hU) (nU2 i hi)⟩
    have e2 := cc_first (nt := nt) iff hi hi2 hU hmin hU2 hmin2
    subst e2
    exact ⟨rfl, ⟨nt, hnt, rfl, rfl, hkd⟩, rfl, rfl, rfl, Or.inl ⟨rfl, rfl⟩, ⟨rfl, rfl, rfl, rfl, rfl, rfl⟩, ⟨rfl, rfl, rfl, rfl⟩, hG0, hE0⟩
  · refine cc_Y hnt rfl hkd h (fun z => absurd he z) (fun _ K2 O2 ab as pt op W2 M2 hY hI => ?_)
    obtain ⟨h', cg⟩ := cc_cong h he hX hY
    have iffU := fun j (hj : j < nt) => cc_U (cg j hj).1 (cg j hj).2.2.2.1
    have iff := fun j (hj : j < nt) => cc_O (il := gs_il K e) (il2 := gs_il K2 e) (cg j hj).1 (cg j hj).2.2.1 (cg j hj).2.2.2.2.1
    refine ⟨fun i2 hi2 hU2 hmin2 => absurd ((iffU i2 hi2).mp hU2) (nU i2 hi2), fun nU2 => ⟨fun i2 hi2 hO2 hmin2 => ?_, fun nO2 => absurd ((iff i hi).mpr hO) (nO2 i hi)⟩⟩
    have e2 := cc_first (nt := nt) iff hi hi2 hO hmin hO2 hmin2
    subst e2
    exact ⟨rfl, ⟨nt, hnt, rfl, rfl, hkd⟩, rfl, rfl, rfl, Or.inl ⟨rfl, rfl⟩, ⟨rfl, rfl, rfl, rfl, rfl, rfl⟩, ⟨rfl, rfl, rfl, rfl⟩, hG0, hE0⟩
  · refine cc_Y hnt rfl hkd h (fun z => absurd he z) (fun _ K2 O2 ab as pt op W2 M2 hY hI => ?_)
    obtain ⟨h', cg⟩ := cc_cong h he hX hY
    have iffU := fun j (hj : j < nt) => cc_U (cg j hj).1 (cg j hj).2.2.2.1
    have iff := fun j (hj : j < nt) => cc_O (il := gs_il K e) (il2 := gs_il K2 e) (cg j hj).1 (cg j hj).2.2.1 (cg j hj).2.2.2.2.1
    refine ⟨fun i2 hi2 hU2 hmin2 => absurd ((iffU i2 hi2).mp hU2) (nU i2 hi2), fun nU2 => ⟨fun i2 hi2 hO2 hmin2 => absurd ((iff i2 hi2).mp hO2) (nO i2 hi2), fun nO2 => ?_⟩⟩
    have hn0 : 0 < nt := by have := h.2 0; omega
    exact ⟨rfl, ⟨nt, hnt, rfl, rfl, hkd⟩, rfl, rfl, rfl, Or.inr ⟨nt, hn0, hnt, rfl, rfl, rfl, cc_T hnt hkd h he hX hY hI nU nO⟩, ⟨rfl, rfl, rfl, rfl, rfl, rfl⟩, ⟨rfl, rfl, rfl, rfl⟩, hG0, hE0⟩
end
section
section
variable {w : gw_T} {f_tokenCount f_scriptSize f_saidPlace f_activationCount f_variableCount f_functionCount f_generatorCount f_ending f_valueSort : Int32} {f_valueNumber : Int64} {f_noteCount f_stepCount f_latestRun : Int32} {a_tokenKinds a_tokenOperands a_kinds a_operands a_parents a_behind a_ownFns a_meanings a_generatorFns a_frameTokens a_frameStages a_frameScopes a_keptEndings a_keptSorts : Nat → Int32} {a_keptNumbers : Nat → Int64} {a_frameCounts a_activeSlots a_variableBinders a_variableOuters a_variableSorts : Nat → Int32} {a_variableNumbers : Nat → Int64} {a_functionTokens a_functionScopes a_generatorStates a_noteSorts : Nat → Int32} {a_noteNumbers : Nat → Int64} {f_drafted f_length f_place f_there f_chains f_functions f_generators f_active f_begins f_token f_chain f_how f_sort : Int32} {f_value : Int64} {f_steps f_endSort f_status : Int32} {f_endNumber : Int64} {f_over f_noted : Int32} {a_draftKind a_draftWith a_kind a_with a_above a_as a_part a_open a_means a_own a_yields a_binder a_outer a_holdsSort : Nat → Int32} {a_holds : Nat → Int64} {a_fnToken a_fnChain a_state a_gBody a_gChain a_gYield a_closing a_rowOf a_many a_wToken a_wOperand a_wChain a_wSort a_wHow : Nat → Int32} {a_wValue : Nat → Int64} {a_noteSort : Nat → Int32} {a_noteNumber : Nat → Int64}
theorem if_124 {post : Int32 → Prop} {J : Int32 → Int32 → Prop} {x1 : Int32} {c i : Nat} (hc : c < 2 ^ 31) (hJ : J (nI c) (nI (i + 1))) : wY_info_124 post J x1 (nI c) (nI i) 0 f_drafted f_length f_place f_there f_chains f_functions f_generators f_active f_begins f_token f_chain f_how f_sort f_value f_steps f_endSort f_status f_endNumber f_over f_noted a_draftKind a_draftWith a_kind a_with a_above a_as a_part a_open a_means a_own a_yields a_binder a_outer a_holdsSort a_holds a_fnToken a_fnChain a_state a_gBody a_gChain a_gYield a_closing a_rowOf a_many a_wToken a_wOperand a_wChain a_wSort a_wHow a_wValue a_noteSort a_noteNumber :=
  br_t (nI_pos' hc) (nm_r (nI_1 i) hJ)
theorem if_0 {n : Nat} (hn : n ≤ 48) (ex : f_scriptSize = nI n) (ey : f_length = nI n) (hK : ∀ i, i < n → a_kind i = a_kinds i) :
    ∀ d i c, i + d = n → c ≤ i → ∃ r : Int32, (∀ post : Int32 → Prop, post r → wX_countFns_4 post f_tokenCount f_scriptSize f_saidPlace f_activationCount f_variableCount f_functionCount f_generatorCount f_ending f_valueSort f_valueNumber f_noteCount f_stepCount f_latestRun a_tokenKinds a_tokenOperands a_kinds a_operands a_parents a_behind a_ownFns a_meanings a_generatorFns a_frameTokens a_frameStages a_frameScopes a_keptEndings a_keptSorts a_keptNumbers a_frameCounts a_activeSlots a_variableBinders a_variableOuters a_variableSorts a_variableNumbers a_functionTokens a_functionScopes a_generatorStates a_noteSorts a_noteNumbers (d + 1) (nI c) (nI i)) ∧ (∀ post : Int32 → Prop, post r → wY_info_21 post 0 f_drafted f_length f_place f_there f_chains f_functions f_generators f_active f_begins f_token f_chain f_how f_sort f_value f_steps f_endSort f_status f_endNumber f_over f_noted a_draftKind a_draftWith a_kind a_with a_above a_as a_part a_open a_means a_own a_yields a_binder a_outer a_holdsSort a_holds a_fnToken a_fnChain a_state a_gBody a_gChain a_gYield a_closing a_rowOf a_many a_wToken a_wOperand a_wChain a_wSort a_wHow a_wValue a_noteSort a_noteNumber (d + 1) (nI c) (nI i)) := by
  subst ex ey
  intro d
  induction d with
  | zero =>
    intro i c hi hc
    have hi : i = n := by omega
    subst hi
    exact ⟨nI c, fun _ hp => br_t (nI_le (Nat.le_refl _) (by omega)) hp, fun _ hp => br_t (nI_le (Nat.le_refl _) (by omega)) hp⟩
  | succ d ih =>
    intro i c hi hc
    have iv : vp_in (nI i) 48 := vp_in_nI (by omega) (by decide)
    have ei : (nI i).toNatClampNeg = i := nI_clamp (by omega)
    have eK := hK i (by omega)
    have g : ¬ nI n ≤ nI i := nI_ge (by omega) (by omega)
    by_cases z : a_kinds i = 5
    · obtain ⟨r, hX, hY⟩ := ih (i + 1) (c + 1) (by omega) (by omega)
      refine ⟨r, fun post hp => br_f g ⟨iv, br_t (by rw [ei]; exact z) (nm_r (nI_1 c) (nm_r (nI_1 i) (hX post hp)))⟩, fun post hp => br_f g (br_f (by decide) ⟨iv, br_t (by rw [ei, eK]; exact z) (br_t rfl (nm_r (nI_1 c) (br_f (by decide) ?_)))⟩)⟩
      exact if_124 (by omega) (hY post hp)
    · obtain ⟨r, hX, hY⟩ := ih (i + 1) c (by omega) (by omega)
      exact ⟨r, fun post hp => br_f g ⟨iv, br_f (by rw [ei]; exact z) (nm_r (nI_1 i) (hX post hp))⟩, fun post hp => br_f g (br_f (by decide) ⟨iv, br_f (by rw [ei, eK]; exact z) (nm_r (nI_1 i) (hY post hp))⟩)⟩
theorem if_1 {n : Nat} (hn : n ≤ 48) (ex : f_scriptSize = nI n) (ey : f_length = nI n) (hK : ∀ i, i < n → a_kind i = a_kinds i) (hg : ∀ i, i < n → a_yields i = a_generatorFns i) (h5 : ∀ i, i < n → a_generatorFns i = 0 ∨ (a_generatorFns i = 1 ∧ a_kinds i = 5)) :
    ∀ d i c, i + d = n → c ≤ i → ∃ r : Int32, (∀ post : Int32 → Prop, post r → wX_countGeneratorFns_4 post f_tokenCount f_scriptSize f_saidPlace f_activationCount f_variableCount f_functionCount f_generatorCount f_ending f_valueSort f_valueNumber f_noteCount f_stepCount f_latestRun a_tokenKinds a_tokenOperands a_kinds a_operands a_parents a_behind a_ownFns a_meanings a_generatorFns a_frameTokens a_frameStages a_frameScopes a_keptEndings a_keptSorts a_keptNumbers a_frameCounts a_activeSlots a_variableBinders a_variableOuters a_variableSorts a_variableNumbers a_functionTokens a_functionScopes a_generatorStates a_noteSorts a_noteNumbers (d + 1) (nI c) (nI i)) ∧ (∀ post : Int32 → Prop, post r → wY_info_21 post 1 f_drafted f_length f_place f_there f_chains f_functions f_generators f_active f_begins f_token f_chain f_how f_sort f_value f_steps f_endSort f_status f_endNumber f_over f_noted a_draftKind a_draftWith a_kind a_with a_above a_as a_part a_open a_means a_own a_yields a_binder a_outer a_holdsSort a_holds a_fnToken a_fnChain a_state a_gBody a_gChain a_gYield a_closing a_rowOf a_many a_wToken a_wOperand a_wChain a_wSort a_wHow a_wValue a_noteSort a_noteNumber (d + 1) (nI c) (nI i)) := by
  subst ex ey
  intro d
  induction d with
  | zero =>
    intro i c hi hc
    have hi : i = n := by omega
    subst hi
    exact ⟨nI c, fun _ hp => br_t (nI_le (Nat.le_refl _) (by omega)) hp, fun _ hp => br_t (nI_le (Nat.le_refl _) (by omega)) hp⟩
  | succ d ih =>
    intro i c hi hc
    have iv : vp_in (nI i) 48 := vp_in_nI (by omega) (by decide)
    have ei : (nI i).toNatClampNeg = i := nI_clamp (by omega)
    have eK := hK i (by omega)
    have eg := hg i (by omega)
    have g : ¬ nI n ≤ nI i := nI_ge (by omega) (by omega)
    rcases h5 i (by omega) with z | ⟨z, z5⟩
    · obtain ⟨r, hX, hY⟩ := ih (i + 1) c (by omega) (by omega)
      refine ⟨r, fun post hp => br_f g ⟨iv, br_t (by rw [ei]; exact z) (nm_r (nI_1 i) (hX post hp))⟩, fun post hp => br_f g (br_f (by decide) ⟨iv, br_c (fun _ => br_f (by decide) (br_t rfl ⟨iv, br_t (by rw [ei, eg]; exact z) (br_f (by decide) ?_)⟩)) (fun _ => nm_r (nI_1 i) (hY post hp))⟩)⟩
      exact if_124 (by omega) (hY post hp)
    · obtain ⟨r, hX, hY⟩ := ih (i + 1) (c + 1) (by omega) (by omega)
      refine ⟨r, fun post hp => br_f g ⟨iv, br_f (by rw [ei, z]; decide) (nm_r (nI_1 c) (nm_r (nI_1 i) (hX post hp)))⟩, fun post hp => br_f g (br_f (by decide) ⟨iv, br_t (by rw [ei, eK]; exact z5) (br_f (by decide) (br_t rfl ⟨iv, br_f (by rw [ei, eg, z]; decide) (nm_r (nI_1 c) (br_f (by decide) ?_))⟩))⟩)⟩
      exact if_124 (by omega) (hY post hp)
end
def if_cap (n : Nat) (K W M : Nat → Int32) (b : Nat) : Prop := ∃ j, j < n ∧ M j = nI b ∧ W j ≠ (if K b = 5 then nI b else W b)
section
variable {f_tokenCount f_scriptSize f_saidPlace f_activationCount f_variableCount f_functionCount f_generatorCount f_ending f_valueSort : Int32} {f_valueNumber : Int64} {f_noteCount f_stepCount f_latestRun : Int32} {a_tokenKinds a_tokenOperands a_kinds a_operands a_parents a_behind a_ownFns a_meanings a_generatorFns a_frameTokens a_frameStages a_frameScopes a_keptEndings a_keptSorts : Nat → Int32} {a_keptNumbers : Nat → Int64} {a_frameCounts a_activeSlots a_variableBinders a_variableOuters a_variableSorts : Nat → Int32} {a_variableNumbers : Nat → Int64} {a_functionTokens a_functionScopes a_generatorStates a_noteSorts : Nat → Int32} {a_noteNumbers : Nat → Int64}
theorem if_cX2 {post : Int32 → Prop} {n b : Nat} {hm : Int32} (hn : n ≤ 48) (ex : f_scriptSize = nI n) (h1 : (∃ j, j < n ∧ a_meanings j = nI b ∧ a_ownFns j ≠ hm) → post 1) (h0 : (¬ ∃ j, j < n ∧ a_meanings j = nI b ∧ a_ownFns j ≠ hm) → post 0) :
    ∀ d i, i + d = n → (∀ j, j < i → ¬ (a_meanings j = nI b ∧ a_ownFns j ≠ hm)) → wX_isCaptured_25 post (nI b) hm f_tokenCount f_scriptSize f_saidPlace f_activationCount f_variableCount f_functionCount f_generatorCount f_ending f_valueSort f_valueNumber f_noteCount f_stepCount f_latestRun a_tokenKinds a_tokenOperands a_kinds a_operands a_parents a_behind a_ownFns a_meanings a_generatorFns a_frameTokens a_frameStages a_frameScopes a_keptEndings a_keptSorts a_keptNumbers a_frameCounts a_activeSlots a_variableBinders a_variableOuters a_variableSorts a_variableNumbers a_functionTokens a_functionScopes a_generatorStates a_noteSorts a_noteNumbers (d + 1) (nI i) := by
  subst ex
  intro d
  induction d with
  | zero =>
    intro i hi hj
    have hi : i = n := by omega
    subst hi
    exact br_t (nI_le (Nat.le_refl _) (by omega)) (h0 (fun ⟨j, q1, q2⟩ => hj j q1 q2))
  | succ d ih =>
    intro i hi hj
    have iv : vp_in (nI i) 48 := vp_in_nI (by omega) (by decide)
    have ei : (nI i).toNatClampNeg = i := nI_clamp (by omega)
    have nx : ¬ (a_meanings i = nI b ∧ a_ownFns i ≠ hm) → ∀ j, j < i + 1 → ¬ (a_meanings j = nI b ∧ a_ownFns j ≠ hm) := by
      intro q j hj2
      by_cases y : j = i
      · subst y; exact q
      · exact hj j (by omega)
    refine br_f (nI_ge (by omega) (by omega)) ⟨iv, ?_⟩
    rw [ei]
    refine br_c (fun c => ⟨iv, br_c (fun c2 => nm_r (nI_1 i) (ih (i + 1) (by omega) (nx (fun q => q.2 c2)))) (fun c2 => h1 ⟨i, by omega, c, c2⟩)⟩) (fun c => nm_r (nI_1 i) (ih (i + 1) (by omega) (nx (fun q => c q.1))))
theorem if_cX {post : Int32 → Prop} {n b : Nat} (hn : n ≤ 48) (ex : f_scriptSize = nI n) (hb : b < n) (hmj : ∀ j, j < n → a_meanings j = nI b → b < j) (h1 : if_cap n a_kinds a_ownFns a_meanings b → post 1) (h0 : ¬ if_cap n a_kinds a_ownFns a_meanings b → post 0) : wpX_isCaptured post (f_tokenCount, f_scriptSize, f_saidPlace, f_activationCount, f_variableCount, f_functionCount, f_generatorCount, f_ending, f_valueSort, f_valueNumber, f_noteCount, f_stepCount, f_latestRun, a_tokenKinds, a_tokenOperands, a_kinds, a_operands, a_parents, a_behind, a_ownFns, a_meanings, a_generatorFns, a_frameTokens, a_frameStages, a_frameScopes, a_keptEndings, a_keptSorts, a_keptNumbers, a_frameCounts, a_activeSlots, a_variableBinders, a_variableOuters, a_variableSorts, a_variableNumbers, a_functionTokens, a_functionScopes, a_generatorStates, a_noteSorts, a_noteNumbers) (nI b) := by
  have iv : vp_in (nI b) 48 := vp_in_nI (by omega) (by decide)
  have eb : (nI b).toNatClampNeg = b := nI_clamp (by omega)
  have st : ∀ hm : Int32, ∀ j, j < b + 1 → ¬ (a_meanings j = nI b ∧ a_ownFns j ≠ hm) := by
    intro hm j hj q
    have := hmj j (by omega) q.1
    omega
  refine ⟨iv, ?_⟩
  rw [eb]
  unfold if_cap at h1 h0
  refine br_c (fun c => nm_r (nI_1 b) ⟨n - (b + 1) + 1, ?_⟩) (fun c => ⟨iv, nm_e (nm_r (nI_1 b) ⟨n - (b + 1) + 1, ?_⟩)⟩)
  · rw [if_pos c] at h1 h0
    exact if_cX2 hn ex h1 h0 _ (b + 1) (by omega) (st _)
  · rw [if_neg c] at h1 h0
    exact if_cX2 hn ex h1 h0 _ (b + 1) (by omega) (st _)
end
section
variable {f_drafted f_length f_place f_there f_chains f_functions f_generators f_active f_begins f_token f_chain f_how f_sort : Int32} {f_value : Int64} {f_steps f_endSort f_status : Int32} {f_endNumber : Int64} {f_over f_noted : Int32} {a_draftKind a_draftWith a_kind a_with a_above a_as a_part a_open a_means a_own a_yields a_binder a_outer a_holdsSort : Nat → Int32} {a_holds : Nat → Int64} {a_fnToken a_fnChain a_state a_gBody a_gChain a_gYield a_closing a_rowOf a_many a_wToken a_wOperand a_wChain a_wSort a_wHow : Nat → Int32} {a_wValue : Nat → Int64} {a_noteSort : Nat → Int32} {a_noteNumber : Nat → Int64}
theorem if_cY2 {post : Int32 → Prop} {n b : Nat} (hn : n ≤ 48) (ey : f_length = nI n) (hb : b < n) (h1 : if_cap n a_kind a_own a_means b → post 1) (h0 : ¬ if_cap n a_kind a_own a_means b → post 0) :
    ∀ d i, i + d = n → (∀ j, j < i → ¬ (a_means j = nI b ∧ a_own j ≠ (if a_kind b = 5 then nI b else a_own b))) → wY_isCaptured_2 post (nI b) f_drafted f_length f_place f_there f_chains f_functions f_generators f_active f_begins f_token f_chain f_how f_sort f_value f_steps f_endSort f_status f_endNumber f_over f_noted a_draftKind a_draftWith a_kind a_with a_above a_as a_part a_open a_means a_own a_yields a_binder a_outer a_holdsSort a_holds a_fnToken a_fnChain a_state a_gBody a_gChain a_gYield a_closing a_rowOf a_many a_wToken a_wOperand a_wChain a_wSort a_wHow a_wValue a_noteSort a_noteNumber (d + 1) (nI i) := by
  subst ey
  intro d
  induction d with
  | zero =>
    intro i hi hj
    have hi : i = n := by omega
    subst hi
    exact br_t (nI_le (Nat.le_refl _) (by omega)) (h0 (fun ⟨j, q1, q2⟩ => hj j q1 q2))
  | succ d ih =>
    intro i hi hj
    have iv : vp_in (nI i) 48 := vp_in_nI (by omega) (by decide)
    have ei : (nI i).toNatClampNeg = i := nI_clamp (by omega)
    have ivb : vp_in (nI b) 48 := vp_in_nI (by omega) (by decide)
    have eb : (nI b).toNatClampNeg = b := nI_clamp (by omega)
    have nx : ¬ (a_means i = nI b ∧ a_own i ≠ (if a_kind b = 5 then nI b else a_own b)) → ∀ j, j < i + 1 → ¬ (a_means j = nI b ∧ a_own j ≠ (if a_kind b = 5 then nI b else a_own b)) := by
      intro q j hj2
      by_cases y : j = i
      · subst y; exact q
      · exact hj j (by omega)
    refine br_f (nI_ge (by omega) (by omega)) ⟨iv, ?_⟩
    rw [ei]
    refine br_c (fun c => ⟨iv, ivb, ?_⟩) (fun c => nm_r (nI_1 i) (ih (i + 1) (by omega) (nx (fun q => c q.1))))
    rw [eb]
    refine br_c (fun k5 => br_c (fun c2 => nm_r (nI_1 i) (ih (i + 1) (by omega) (nx (fun q => q.2 (by rw [if_pos k5]; exact c2))))) (fun c2 => h1 ⟨i, by omega, c, by rw [if_pos k5]; exact c2⟩)) (fun k5 => ⟨ivb, br_c (fun c2 => nm_r (nI_1 i) (ih (i + 1) (by omega) (nx (fun q => q.2 (by rw [if_neg k5]; exact c2))))) (fun c2 => h1 ⟨i, by omega, c, by rw [if_neg k5]; exact c2⟩)⟩)
theorem if_cY {post : Int32 → Prop} {n b : Nat} (hn : n ≤ 48) (ey : f_length = nI n) (hb : b < n) (h1 : if_cap n a_kind a_own a_means b → post 1) (h0 : ¬ if_cap n a_kind a_own a_means b → post 0) : wpY_isCaptured post (f_drafted, f_length, f_place, f_there, f_chains, f_functions, f_generators, f_active, f_begins, f_token, f_chain, f_how, f_sort, f_value, f_steps, f_endSort, f_status, f_endNumber, f_over, f_noted, a_draftKind, a_draftWith, a_kind, a_with, a_above, a_as, a_part, a_open, a_means, a_own, a_yields, a_binder, a_outer, a_holdsSort, a_holds, a_fnToken, a_fnChain, a_state, a_gBody, a_gChain, a_gYield, a_closing, a_rowOf, a_many, a_wToken, a_wOperand, a_wChain, a_wSort, a_wHow, a_wValue, a_noteSort, a_noteNumber) (nI b) :=
  ⟨n + 1, if_cY2 hn ey hb h1 h0 n 0 (by omega) (fun j hj => absurd hj (Nat.not_lt_zero _))⟩
end
section
variable {f_tokenCount f_scriptSize f_saidPlace f_activationCount f_variableCount f_functionCount f_generatorCount f_ending f_valueSort : Int32} {f_valueNumber : Int64} {f_noteCount f_stepCount f_latestRun : Int32} {a_tokenKinds a_tokenOperands a_kinds a_operands a_parents a_behind a_ownFns a_meanings a_generatorFns a_frameTokens a_frameStages a_frameScopes a_keptEndings a_keptSorts : Nat → Int32} {a_keptNumbers : Nat → Int64} {a_frameCounts a_activeSlots a_variableBinders a_variableOuters a_variableSorts : Nat → Int32} {a_variableNumbers : Nat → Int64} {a_functionTokens a_functionScopes a_generatorStates a_noteSorts : Nat → Int32} {a_noteNumbers : Nat → Int64} {f_drafted f_length f_place f_there f_chains f_functions f_generators f_active f_begins f_token f_chain f_how f_sort : Int32} {f_value : Int64} {f_steps f_endSort f_status : Int32} {f_endNumber : Int64} {f_over f_noted : Int32} {a_draftKind a_draftWith a_kind a_with a_above a_as a_part a_open a_means a_own a_yields a_binder a_outer a_holdsSort : Nat → Int32} {a_holds : Nat → Int64} {a_fnToken a_fnChain a_state a_gBody a_gChain a_gYield a_closing a_rowOf a_many a_wToken a_wOperand a_wChain a_wSort a_wHow : Nat → Int32} {a_wValue : Nat → Int64} {a_noteSort : Nat → Int32} {a_noteNumber : Nat → Int64}
theorem if_2 {n : Nat} (hn : n ≤ 48) (ex : f_scriptSize = nI n) (ey : f_length = nI n) (hK : ∀ i, i < n → a_kind i = a_kinds i) (hM : ∀ i, i < n → a_means i = a_meanings i) (hW : ∀ i, i < n → a_own i = a_ownFns i)
    (hmj : ∀ b j, b < n → j < n → a_meanings j = nI b → b < j ∧ (a_kinds b = 5 ∨ a_kinds b = 4 ∨ a_kinds b = 20)) :
    ∀ d i c, i + d = n → c ≤ i → ∃ r : Int32, (∀ post : Int32 → Prop, post r → wX_countCaptured_4 post f_tokenCount f_scriptSize f_saidPlace f_activationCount f_variableCount f_functionCount f_generatorCount f_ending f_valueSort f_valueNumber f_noteCount f_stepCount f_latestRun a_tokenKinds a_tokenOperands a_kinds a_operands a_parents a_behind a_ownFns a_meanings a_generatorFns a_frameTokens a_frameStages a_frameScopes a_keptEndings a_keptSorts a_keptNumbers a_frameCounts a_activeSlots a_variableBinders a_variableOuters a_variableSorts a_variableNumbers a_functionTokens a_functionScopes a_generatorStates a_noteSorts a_noteNumbers (d + 1) (nI c) (nI i)) ∧ (∀ post : Int32 → Prop, post r → wY_info_21 post 2 f_drafted f_length f_place f_there f_chains f_functions f_generators f_active f_begins f_token f_chain f_how f_sort f_value f_steps f_endSort f_status f_endNumber f_over f_noted a_draftKind a_draftWith a_kind a_with a_above a_as a_part a_open a_means a_own a_yields a_binder a_outer a_holdsSort a_holds a_fnToken a_fnChain a_state a_gBody a_gChain a_gYield a_closing a_rowOf a_many a_wToken a_wOperand a_wChain a_wSort a_wHow a_wValue a_noteSort a_noteNumber (d + 1) (nI c) (nI i)) := by
  have ex0 := ex
  have ey0 := ey
  intro d
  induction d with
  | zero =>
    intro i c hi hc
    have hi : i = n := by omega
    subst hi
    exact ⟨nI c, fun _ hp => br_t (by rw [ex]; exact nI_le (Nat.le_refl _) (by omega)) hp, fun _ hp => br_t (by rw [ey]; exact nI_le (Nat.le_refl _) (by omega)) hp⟩
  | succ d ih =>
    intro i c hi hc
    have iv : vp_in (nI i) 48 := vp_in_nI (by omega) (by decide)
    have ei : (nI i).toNatClampNeg = i := nI_clamp (by omega)
    have eK := hK i (by omega)
    have gx : ¬ f_scriptSize ≤ nI i := by rw [ex]; exact nI_ge (by omega) (by omega)
    have gy : ¬ f_length ≤ nI i := by rw [ey]; exact nI_ge (by omega) (by omega)
    have cap : if_cap n a_kind a_own a_means i ↔ if_cap n a_kinds a_ownFns a_meanings i := by
      unfold if_cap
      rw [eK, hW i (by omega)]
      constructor
      · rintro ⟨j, q1, q2, q3⟩
        exact ⟨j, q1, by rw [← hM j q1]; exact q2, by rw [← hW j q1]; exact q3⟩
      · rintro ⟨j, q1, q2, q3⟩
        exact ⟨j, q1, by rw [hM j q1]; exact q2, by rw [hW j q1]; exact q3⟩
    by_cases z : if_cap n a_kinds a_ownFns a_meanings i
    · obtain ⟨r, hX, hY⟩ := ih (i + 1) (c + 1) (by omega) (by omega)
      have kk : a_kinds i = 5 ∨ a_kinds i = 4 ∨ a_kinds i = 20 := by
        obtain ⟨j, q1, q2, _⟩ := z
        exact (hmj i j (by omega) q1 q2).2
      refine ⟨r, fun post hp => br_f gx ?_, fun post hp => br_f gy (br_t rfl ⟨iv, ?_⟩)⟩
      · exact if_cX hn ex (by omega) (fun j hj q => (hmj i j (by omega) hj q).1) (fun _ => br_f (by decide) (nm_r (nI_1 c) (nm_r (nI_1 i) (hX post hp)))) (fun y => absurd z y)
      · have f76 : wY_info_76 post (wY_info_21 post 2 f_drafted f_length f_place f_there f_chains f_functions f_generators f_active f_begins f_token f_chain f_how f_sort f_value f_steps f_endSort f_status f_endNumber f_over f_noted a_draftKind a_draftWith a_kind a_with a_above a_as a_part a_open a_means a_own a_yields a_binder a_outer a_holdsSort a_holds a_fnToken a_fnChain a_state a_gBody a_gChain a_gYield a_closing a_rowOf a_many a_wToken a_wOperand a_wChain a_wSort a_wHow a_wValue a_noteSort a_noteNumber (d + 1)) 2 (nI (c + 1)) (nI i) f_drafted f_length f_place f_there f_chains f_functions f_generators f_active f_begins f_token f_chain f_how f_sort f_value f_steps f_endSort f_status f_endNumber f_over f_noted a_draftKind a_draftWith a_kind a_with a_above a_as a_part a_open a_means a_own a_yields a_binder a_outer a_holdsSort a_holds a_fnToken a_fnChain a_state a_gBody a_gChain a_gYield a_closing a_rowOf a_many a_wToken a_wOperand a_wChain a_wSort a_wHow a_wValue a_noteSort a_noteNumber :=
          ⟨iv, br_c (fun _ => br_f (by decide) (br_f (by decide) (br_f (by decide) (if_124 (by omega) (hY post hp))))) (fun _ => nm_r (nI_1 i) (hY post hp))⟩
        have f65 : wY_info_65 post (wY_info_21 post 2 f_drafted f_length f_place f_there f_chains f_functions f_generators f_active f_begins f_token f_chain f_how f_sort f_value f_steps f_endSort f_status f_endNumber f_over f_noted a_draftKind a_draftWith a_kind a_with a_above a_as a_part a_open a_means a_own a_yields a_binder a_outer a_holdsSort a_holds a_fnToken a_fnChain a_state a_gBody a_gChain a_gYield a_closing a_rowOf a_many a_wToken a_wOperand a_wChain a_wSort a_wHow a_wValue a_noteSort a_noteNumber (d + 1)) 2 (nI c) (nI i) f_drafted f_length f_place f_there f_chains f_functions f_generators f_active f_begins f_token f_chain f_how f_sort f_value f_steps f_endSort f_status f_endNumber f_over f_noted a_draftKind a_draftWith a_kind a_with a_above a_as a_part a_open a_means a_own a_yields a_binder a_outer a_holdsSort a_holds a_fnToken a_fnChain a_state a_gBody a_gChain a_gYield a_closing a_rowOf a_many a_wToken a_wOperand a_wChain a_wSort a_wHow a_wValue a_noteSort a_noteNumber :=
          if_cY hn ey (by omega) (fun _ => br_f (by decide) (nm_r (nI_1 c) f76)) (fun y => absurd (cap.mpr z) y)
        rw [ei, eK]
        refine br_c (fun _ => f65) (fun n5 => ⟨iv, br_c (fun _ => f65) (fun n4 => ⟨iv, br_t ?_ f65⟩)⟩)
        rcases kk with q | q | q
        · exact absurd q n5
        · exact absurd q n4
        · exact q
    · obtain ⟨r, hX, hY⟩ := ih (i + 1) c (by omega) (by omega)
      refine ⟨r, fun post hp => br_f gx ?_, fun post hp => br_f gy (br_t rfl ⟨iv, ?_⟩)⟩
      · exact if_cX hn ex (by omega) (fun j hj q => (hmj i j (by omega) hj q).1) (fun y => absurd y z) (fun _ => br_t rfl (nm_r (nI_1 i) (hX post hp)))
      · have f76 : wY_info_76 post (wY_info_21 post 2 f_drafted f_length f_place f_there f_chains f_functions f_generators f_active f_begins f_token f_chain f_how f_sort f_value f_steps f_endSort f_status f_endNumber f_over f_noted a_draftKind a_draftWith a_kind a_with a_above a_as a_part a_open a_means a_own a_yields a_binder a_outer a_holdsSort a_holds a_fnToken a_fnChain a_state a_gBody a_gChain a_gYield a_closing a_rowOf a_many a_wToken a_wOperand a_wChain a_wSort a_wHow a_wValue a_noteSort a_noteNumber (d + 1)) 2 (nI c) (nI i) f_drafted f_length f_place f_there f_chains f_functions f_generators f_active f_begins f_token f_chain f_how f_sort f_value f_steps f_endSort f_status f_endNumber f_over f_noted a_draftKind a_draftWith a_kind a_with a_above a_as a_part a_open a_means a_own a_yields a_binder a_outer a_holdsSort a_holds a_fnToken a_fnChain a_state a_gBody a_gChain a_gYield a_closing a_rowOf a_many a_wToken a_wOperand a_wChain a_wSort a_wHow a_wValue a_noteSort a_noteNumber :=
          ⟨iv, br_c (fun _ => br_f (by decide) (br_f (by decide) (br_f (by decide) (if_124 (by omega) (hY post hp))))) (fun _ => nm_r (nI_1 i) (hY post hp))⟩
        have f65 : wY_info_65 post (wY_info_21 post 2 f_drafted f_length f_place f_there f_chains f_functions f_generators f_active f_begins f_token f_chain f_how f_sort f_value f_steps f_endSort f_status f_endNumber f_over f_noted a_draftKind a_draftWith a_kind a_with a_above a_as a_part a_open a_means a_own a_yields a_binder a_outer a_holdsSort a_holds a_fnToken a_fnChain a_state a_gBody a_gChain a_gYield a_closing a_rowOf a_many a_wToken a_wOperand a_wChain a_wSort a_wHow a_wValue a_noteSort a_noteNumber (d + 1)) 2 (nI c) (nI i) f_drafted f_length f_place f_there f_chains f_functions f_generators f_active f_begins f_token f_chain f_how f_sort f_value f_steps f_endSort f_status f_endNumber f_over f_noted a_draftKind a_draftWith a_kind a_with a_above a_as a_part a_open a_means a_own a_yields a_binder a_outer a_holdsSort a_holds a_fnToken a_fnChain a_state a_gBody a_gChain a_gYield a_closing a_rowOf a_many a_wToken a_wOperand a_wChain a_wSort a_wHow a_wValue a_noteSort a_noteNumber :=
          if_cY hn ey (by omega) (fun y => absurd (cap.mp y) z) (fun _ => br_t rfl f76)
        exact br_c (fun _ => f65) (fun _ => ⟨iv, br_c (fun _ => f65) (fun _ => ⟨iv, br_c (fun _ => f65) (fun _ => f76)⟩)⟩)
end
end
section
def if_mt (e : Nat → Nat) (M : Nat → Int32) (f b : Nat) : Prop := ∃ j, f < j ∧ j < e f ∧ M j = nI b
section
variable {f_tokenCount f_scriptSize f_saidPlace f_activationCount f_variableCount f_functionCount f_generatorCount f_ending f_valueSort : Int32} {f_valueNumber : Int64} {f_noteCount f_stepCount f_latestRun : Int32} {a_tokenKinds a_tokenOperands a_kinds a_operands a_parents a_behind a_ownFns a_meanings a_generatorFns a_frameTokens a_frameStages a_frameScopes a_keptEndings a_keptSorts : Nat → Int32} {a_keptNumbers : Nat → Int64} {a_frameCounts a_activeSlots a_variableBinders a_variableOuters a_variableSorts : Nat → Int32} {a_variableNumbers : Nat → Int64} {a_functionTokens a_functionScopes a_generatorStates a_noteSorts : Nat → Int32} {a_noteNumbers : Nat → Int64}
theorem if_17 {post : Int32 → Prop} {J : Int32 → Int32 → Prop} {e : Nat → Nat} {n f b c : Nat} (hn : n ≤ 48) (hf : f < n) (hb : b < f) (hef : e f ≤ n) (hbf : a_behind f = nI (e f)) (h1 : if_mt e a_meanings f b → J (nI (c + 1)) (nI (b + 1))) (h0 : ¬ if_mt e a_meanings f b → J (nI c) (nI (b + 1))) :
    ∀ d j (x4 : Int32), j + d = e f → f < j → ((x4 = 1 ∧ if_mt e a_meanings f b) ∨ (x4 = 0 ∧ ∀ j', f < j' → j' < j → a_meanings j' ≠ nI b)) → wX_countOutsideVariables_17 post J (nI f) (nI c) (nI b) f_tokenCount f_scriptSize f_saidPlace f_activationCount f_variableCount f_functionCount f_generatorCount f_ending f_valueSort f_valueNumber f_noteCount f_stepCount f_latestRun a_tokenKinds a_tokenOperands a_kinds a_operands a_parents a_behind a_ownFns a_meanings a_generatorFns a_frameTokens a_frameStages a_frameScopes a_keptEndings a_keptSorts a_keptNumbers a_frameCounts a_activeSlots a_variableBinders a_variableOuters a_variableSorts a_variableNumbers a_functionTokens a_functionScopes a_generatorStates a_noteSorts a_noteNumbers (d + 1) x4 (nI j) := by
  have ivf : vp_in (nI f) 48 := vp_in_nI (by omega) (by decide)
  have ef : (nI f).toNatClampNeg = f := nI_clamp (by omega)
  intro d
  induction d with
  | zero =>
    intro j x4 hj hfj hx
    have hj : j = e f := by omega
    subst hj
    refine ⟨ivf, ?_⟩
    rw [ef, hbf]
    refine br_t (nI_le (Nat.le_refl _) (by omega)) ?_
    rcases hx with ⟨rfl, m⟩ | ⟨rfl, m⟩
    · exact br_f (by decide) (nm_r (nI_1 c) (nm_r (nI_1 b) (h1 m)))
    · exact br_t rfl (nm_r (nI_1 b) (h0 (fun ⟨j', q1, q2, q3⟩ => m j' q1 q2 q3)))
  | succ d ih =>
    intro j x4 hj hfj hx
    have ivj : vp_in (nI j) 48 := vp_in_nI (by omega) (by decide)
    have ej : (nI j).toNatClampNeg = j := nI_clamp (by omega)
    refine ⟨ivf, ?_⟩
    rw [ef, hbf]
    refine br_f (nI_ge (by omega) (by omega)) ?_
    rcases hx with ⟨rfl, m⟩ | ⟨rfl, m⟩
    · exact br_f (by decide) (nm_r (nI_1 j) (ih (j + 1) 1 (by omega) (by omega) (Or.inl ⟨rfl, m⟩)))
    · refine br_t rfl ⟨ivj, ?_⟩
      rw [ej]
      refine br_c (fun z => nm_r (nI_1 j) (ih (j + 1) 1 (by omega) (by omega) (Or.inl ⟨rfl, ⟨j, hfj, by omega, z⟩⟩))) (fun z => nm_r (nI_1 j) (ih (j + 1) 0 (by omega) (by omega) (Or.inr ⟨rfl, fun j' q1 q2 => ?_⟩)))
      by_cases y : j' = j
      · subst y; exact z
      · exact m j' q1 (by omega)
end
section
variable {f_drafted f_length f_place f_there f_chains f_functions f_generators f_active f_begins f_token f_chain f_how f_sort : Int32} {f_value : Int64} {f_steps f_endSort f_status : Int32} {f_endNumber : Int64} {f_over f_noted : Int32} {a_draftKind a_draftWith a_kind a_with a_above a_as a_part a_open a_means a_own a_yields a_binder a_outer a_holdsSort : Nat → Int32} {a_holds : Nat → Int64} {a_fnToken a_fnChain a_state a_gBody a_gChain a_gYield a_closing a_rowOf a_many a_wToken a_wOperand a_wChain a_wSort a_wHow : Nat → Int32} {a_wValue : Nat → Int64} {a_noteSort : Nat → Int32} {a_noteNumber : Nat → Int64}
theorem if_bl2 {post : Int32 → Prop} {o e : Nat → Nat} {n i f : Nat} (hn : n ≤ 48) (h : tr_T o e) (h3 : ∀ i, o i ≤ 3) (he : e 0 = n) (hA0 : a_above 0 = -1) (hA : ∀ k, 0 < k → k < n → a_above k = nI (tr_pa e k)) (hi : i < n) (hf : f < n) (hne : i ≠ f) (h1 : f < i → i < e f → post 1) (h0 : ¬ (f < i ∧ i < e f) → post 0) :
    ∀ m k, k < n → k + 1 < m → ((f ≤ k ∧ k < e f) ↔ (f < i ∧ i < e f)) → wY_isBelow_2 post (nI i) (nI f) f_drafted f_length f_place f_there f_chains f_functions f_generators f_active f_begins f_token f_chain f_how f_sort f_value f_steps f_endSort f_status f_endNumber f_over f_noted a_draftKind a_draftWith a_kind a_with a_above a_as a_part a_open a_means a_own a_yields a_binder a_outer a_holdsSort a_holds a_fnToken a_fnChain a_state a_gBody a_gChain a_gYield a_closing a_rowOf a_many a_wToken a_wOperand a_wChain a_wSort a_wHow a_wValue a_noteSort a_noteNumber m (nI k) := by
  have nif : ¬ nI i = nI f := by rw [nI_eq (by omega) (by omega)]; exact hne
  intro m
  induction m with
  | zero => intro k _ hm; omega
  | succ m ih =>
    intro k hk hm hq
    refine br_f (nI_pos (by omega)) ?_
    by_cases z : k = f
    · subst z
      have := hq.mp ⟨Nat.le_refl _, h.2 _⟩
      exact br_t rfl (br_t rfl (br_f nif (h1 this.1 this.2)))
    · have nk : ¬ nI k = nI f := by rw [nI_eq (by omega) (by omega)]; exact z
      have iv : vp_in (nI k) 49 := vp_in_nI (by omega) (by decide)
      have ek : (nI k).toNatClampNeg = k := nI_clamp (by omega)
      refine br_f nk ⟨iv, ?_⟩
      rw [ek]
      by_cases y : k = 0
      · subst y
        obtain ⟨m, rfl⟩ : ∃ q, m = q + 1 := ⟨m - 1, by omega⟩
        refine nm_r hA0 (br_t (by decide) (br_f (rt_m1 (by omega)) (h0 (fun q => ?_))))
        have q2 := hq.mpr q
        omega
      · have hp := tr_pk (k := k) h h3 (by omega) (by omega)
        refine nm_r (hA k (by omega) hk) (ih _ (by omega) (by omega) ?_)
        have hin := tr_cin h hp.2.1
        rw [hp.2.2] at hin
        constructor
        · intro q
          refine hq.mp ⟨by omega, ?_⟩
          have := tr_nest h _ f (tr_pa e k) (Nat.le_refl _) q.1 q.2
          omega
        · intro q
          have q2 := hq.mpr q
          obtain ⟨p, j, hp1, hj, hc⟩ := tr_par h _ f k (Nat.le_refl _) (by omega) q2.2
          have hpa := tr_pac h hj
          rw [hc] at hpa
          rw [hpa]
          have := tr_cin h hj
          rw [hc] at this
          exact ⟨hp1, by omega⟩
theorem if_bl {post : Int32 → Prop} {o e : Nat → Nat} {n i f : Nat} (hn : n ≤ 48) (h : tr_T o e) (h3 : ∀ i, o i ≤ 3) (he : e 0 = n) (hA0 : a_above 0 = -1) (hA : ∀ k, 0 < k → k < n → a_above k = nI (tr_pa e k)) (hi : i < n) (hf : f < n) (h1 : f < i → i < e f → post 1) (h0 : ¬ (f < i ∧ i < e f) → post 0) : wpY_isBelow post (f_drafted, f_length, f_place, f_there, f_chains, f_functions, f_generators, f_active, f_begins, f_token, f_chain, f_how, f_sort, f_value, f_steps, f_endSort, f_status, f_endNumber, f_over, f_noted, a_draftKind, a_draftWith, a_kind, a_with, a_above, a_as, a_part, a_open, a_means, a_own, a_yields, a_binder, a_outer, a_holdsSort, a_holds, a_fnToken, a_fnChain, a_state, a_gBody, a_gChain, a_gYield, a_closing, a_rowOf, a_many, a_wToken, a_wOperand, a_wChain, a_wSort, a_wHow, a_wValue, a_noteSort, a_noteNumber) (nI i) (nI f) := by
  refine ⟨i + 2, ?_⟩
  by_cases z : i = f
  · subst z
    exact br_f (nI_pos (by omega)) (br_t rfl (br_t rfl (br_t rfl (h0 (fun q => by omega)))))
  · refine if_bl2 hn h h3 he hA0 hA hi hf z h1 h0 (i + 2) i hi (by omega) ?_
    constructor
    · intro q
      exact ⟨by omega, q.2⟩
    · intro q
      exact ⟨by omega, q.2⟩
theorem if_18 {post : Int32 → Prop} {J : Int32 → Int32 → Prop} {o e : Nat → Nat} {n f b c : Nat} (hn : n ≤ 48) (ey : f_length = nI n) (h : tr_T o e) (h3 : ∀ i, o i ≤ 3) (he : e 0 = n) (hA0 : a_above 0 = -1) (hA : ∀ k, 0 < k → k < n → a_above k = nI (tr_pa e k)) (hf : f < n) (hb : b < n)
    (h1 : (if_mt e a_means f b ∧ b ≠ f ∧ ¬ (f < b ∧ b < e f)) → J (nI (c + 1)) (nI (b + 1))) (h0 : ¬ (if_mt e a_means f b ∧ b ≠ f ∧ ¬ (f < b ∧ b < e f)) → J (nI c) (nI (b + 1))) :
    ∀ d j (x4 : Int32), j + d = n → ((x4 = 1 ∧ if_mt e a_means f b) ∨ (x4 = 0 ∧ ∀ j', j' < j → ¬ (f < j' ∧ j' < e f ∧ a_means j' = nI b))) → wY_outside_18 post J (nI f) (nI c) (nI b) f_drafted f_length f_place f_there f_chains f_functions f_generators f_active f_begins f_token f_chain f_how f_sort f_value f_steps f_endSort f_status f_endNumber f_over f_noted a_draftKind a_draftWith a_kind a_with a_above a_as a_part a_open a_means a_own a_yields a_binder a_outer a_holdsSort a_holds a_fnToken a_fnChain a_state a_gBody a_gChain a_gYield a_closing a_rowOf a_many a_wToken a_wOperand a_wChain a_wSort a_wHow a_wValue a_noteSort a_noteNumber (d + 1) x4 (nI j) := by
  have hef : e f ≤ n := by
    have := tr_nest h _ 0 f (Nat.le_refl _) (by omega) (by omega)
    omega
  intro d
  induction d with
  | zero =>
    intro j x4 hj hx
    have hj : j = n := by omega
    subst hj
    refine br_t (by rw [ey]; exact nI_le (Nat.le_refl _) (by omega)) ?_
    rcases hx with ⟨rfl, m⟩ | ⟨rfl, m⟩
    · refine br_f (by decide) ?_
      by_cases z : b = f
      · subst z
        exact br_t rfl (nm_r (nI_1 b) (h0 (fun q => q.2.1 rfl)))
      · refine br_f (by rw [nI_eq (by omega) (by omega)]; exact z) ?_
        exact if_bl hn h h3 he hA0 hA hb hf (fun q1 q2 => br_f (by decide) (nm_r (nI_1 b) (h0 (fun q => q.2.2 ⟨q1, q2⟩)))) (fun q => br_t rfl (nm_r (nI_1 c) (nm_r (nI_1 b) (h1 ⟨m, z, q⟩))))
    · refine br_t rfl (nm_r (nI_1 b) (h0 (fun q => ?_)))
      obtain ⟨j', q1, q2, q3⟩ := q.1
      exact m j' (by omega) ⟨q1, q2, q3⟩
  | succ d ih =>
    intro j x4 hj hx
    have ivj : vp_in (nI j) 48 := vp_in_nI (by omega) (by decide)
    have ej : (nI j).toNatClampNeg = j := nI_clamp (by omega)
    have o0 : x4 ||| 0 = x4 := by rcases hx with ⟨rfl, _⟩ | ⟨rfl, _⟩ <;> decide
    have o1 : x4 ||| 1 = 1 := by rcases hx with ⟨rfl, _⟩ | ⟨rfl, _⟩ <;> decide
    have nx : ¬ (f < j ∧ j < e f ∧ a_means j = nI b) → ((x4 = 1 ∧ if_mt e a_means f b) ∨ (x4 = 0 ∧ ∀ j', j' < j + 1 → ¬ (f < j' ∧ j' < e f ∧ a_means j' = nI b))) := by
      intro q
      rcases hx with y | ⟨y, m⟩
      · exact Or.inl y
      · refine Or.inr ⟨y, fun j' hj' => ?_⟩
        by_cases z : j' = j
        · subst z; exact q
        · exact m j' (by omega)
    refine br_f (by rw [ey]; exact nI_ge (by omega) (by omega)) ⟨ivj, ?_⟩
    rw [ej]
    refine br_c (fun z => ?_) (fun z => nm_r o0 (nm_r (nI_1 j) (ih (j + 1) _ (by omega) (nx (fun q => z q.2.2)))))
    exact if_bl hn h h3 he hA0 hA (by omega) hf (fun q1 q2 => br_f (by decide) (nm_r o1 (nm_r (nI_1 j) (ih (j + 1) 1 (by omega) (Or.inl ⟨rfl, ⟨j, q1, q2, z⟩⟩))))) (fun q => br_t rfl (nm_r o0 (nm_r (nI_1 j) (ih (j + 1) _ (by omega) (nx (fun y => q ⟨y.1, y.2.1⟩))))))
end
section
variable {f_tokenCount f_scriptSize f_saidPlace f_activationCount f_variableCount f_functionCount f_generatorCount f_ending f_valueSort : Int32} {f_valueNumber : Int64} {f_noteCount f_stepCount f_latestRun : Int32} {a_tokenKinds a_tokenOperands a_kinds a_operands a_parents a_behind a_ownFns a_meanings a_generatorFns a_frameTokens a_frameStages a_frameScopes a_keptEndings a_keptSorts : Nat → Int32} {a_keptNumbers : Nat → Int64} {a_frameCounts a_activeSlots a_variableBinders a_variableOuters a_variableSorts : Nat → Int32} {a_variableNumbers : Nat → Int64} {a_functionTokens a_functionScopes a_generatorStates a_noteSorts : Nat → Int32} {a_noteNumbers : Nat → Int64} {f_drafted f_length f_place f_there f_chains f_functions f_generators f_active f_begins f_token f_chain f_how f_sort : Int32} {f_value : Int64} {f_steps f_endSort f_status : Int32} {f_endNumber : Int64} {f_over f_noted : Int32} {a_draftKind a_draftWith a_kind a_with a_above a_as a_part a_open a_means a_own a_yields a_binder a_outer a_holdsSort : Nat → Int32} {a_holds : Nat → Int64} {a_fnToken a_fnChain a_state a_gBody a_gChain a_gYield a_closing a_rowOf a_many a_wToken a_wOperand a_wChain a_wSort a_wHow : Nat → Int32} {a_wValue : Nat → Int64} {a_noteSort : Nat → Int32} {a_noteNumber : Nat → Int64}
variable {o e : Nat → Nat} {n f : Nat}
theorem if_rest {post : Int32 → Prop} {c : Nat} (hn : n ≤ 48) (ey : f_length = nI n) (h : tr_T o e) (h3 : ∀ i, o i ≤ 3) (he : e 0 = n) (hA0 : a_above 0 = -1) (hA : ∀ k, 0 < k → k < n → a_above k = nI (tr_pa e k)) (hf : f < n) (hmj : ∀ b j, b < n → j < n → a_means j = nI b → b < j) (hp : post (nI c)) :
    ∀ d b, b + d = n → f ≤ b → wY_outside_4 post (nI f) f_drafted f_length f_place f_there f_chains f_functions f_generators f_active f_begins f_token f_chain f_how f_sort f_value f_steps f_endSort f_status f_endNumber f_over f_noted a_draftKind a_draftWith a_kind a_with a_above a_as a_part a_open a_means a_own a_yields a_binder a_outer a_holdsSort a_holds a_fnToken a_fnChain a_state a_gBody a_gChain a_gYield a_closing a_rowOf a_many a_wToken a_wOperand a_wChain a_wSort a_wHow a_wValue a_noteSort a_noteNumber (d + 1) (nI c) (nI b) := by
  have hef : e f ≤ n := by
    have := tr_nest h _ 0 f (Nat.le_refl _) (by omega) (by omega)
    omega
  intro d
  induction d with
  | zero =>
    intro b hb hfb
    exact br_t (by rw [ey]; exact nI_le (by omega) (by omega)) hp
  | succ d ih =>
    intro b hb hfb
    refine br_f (by rw [ey]; exact nI_ge (by omega) (by omega)) ⟨n + 1, ?_⟩
    refine if_18 hn ey h h3 he hA0 hA hf (by omega) (fun q => ?_) (fun _ => ih (b + 1) (by omega) (by omega)) n 0 0 (by omega) (Or.inr ⟨rfl, fun j' hj' => absurd hj' (Nat.not_lt_zero _)⟩)
    obtain ⟨⟨j, q1, q2, q3⟩, q4, q5⟩ := q
    have := hmj b j (by omega) (by omega) q3
    exact absurd ⟨by omega, by omega⟩ q5
theorem if_out (hn : n ≤ 48) (ex : f_scriptSize = nI n) (ey : f_length = nI n) (h : tr_T o e) (h3 : ∀ i, o i ≤ 3) (he : e 0 = n) (hA0 : a_above 0 = -1) (hA : ∀ k, 0 < k → k < n → a_above k = nI (tr_pa e k)) (hM : ∀ i, i < n → a_means i = a_meanings i) (hbf : ∀ i, i < n → a_behind i = nI (e i)) (hf : f < n) (hmj : ∀ b j, b < n → j < n → a_means j = nI b → b < j) :
    ∀ d b c, b + d = f → c ≤ b → ∃ q, q ≤ f ∧ (∀ post : Int32 → Prop, post (nI q) → wX_countOutsideVariables_4 post (nI f) f_tokenCount f_scriptSize f_saidPlace f_activationCount f_variableCount f_functionCount f_generatorCount f_ending f_valueSort f_valueNumber f_noteCount f_stepCount f_latestRun a_tokenKinds a_tokenOperands a_kinds a_operands a_parents a_behind a_ownFns a_meanings a_generatorFns a_frameTokens a_frameStages a_frameScopes a_keptEndings a_keptSorts a_keptNumbers a_frameCounts a_activeSlots a_variableBinders a_variableOuters a_variableSorts a_variableNumbers a_functionTokens a_functionScopes a_generatorStates a_noteSorts a_noteNumbers (d + 1) (nI c) (nI b)) ∧ (∀ post : Int32 → Prop, post (nI q) → wY_outside_4 post (nI f) f_drafted f_length f_place f_there f_chains f_functions f_generators f_active f_begins f_token f_chain f_how f_sort f_value f_steps f_endSort f_status f_endNumber f_over f_noted a_draftKind a_draftWith a_kind a_with a_above a_as a_part a_open a_means a_own a_yields a_binder a_outer a_holdsSort a_holds a_fnToken a_fnChain a_state a_gBody a_gChain a_gYield a_closing a_rowOf a_many a_wToken a_wOperand a_wChain a_wSort a_wHow a_wValue a_noteSort a_noteNumber (n - b + 1) (nI c) (nI b)) := by
  have hef : e f ≤ n := by
    have := tr_nest h _ 0 f (Nat.le_refl _) (by omega) (by omega)
    omega
  intro d
  induction d with
  | zero =>
    intro b c hb hc
    have hb : b = f := by omega
    subst hb
    exact ⟨c, hc, fun _ hp => br_t (nI_le (Nat.le_refl _) (by omega)) hp, fun _ hp => if_rest hn ey h h3 he hA0 hA hf hmj hp (n - b) b (by omega) (Nat.le_refl _)⟩
  | succ d ih =>
    intro b c hb hc
    have fu : n - b + 1 = (n - (b + 1) + 1) + 1 := by omega
    have mt : if_mt e a_means f b ↔ if_mt e a_meanings f b := by
      constructor
      · rintro ⟨j, q1, q2, q3⟩
        exact ⟨j, q1, q2, by rw [← hM j (by omega)]; exact q3⟩
      · rintro ⟨j, q1, q2, q3⟩
        exact ⟨j, q1, q2, by rw [hM j (by omega)]; exact q3⟩
    have gx : ¬ nI f ≤ nI b := nI_ge (by omega) (by omega)
    have gy : ¬ f_length ≤ nI b := by rw [ey]; exact nI_ge (by omega) (by omega)
    by_cases z : if_mt e a_meanings f b
    · obtain ⟨q, hq, hX, hY⟩ := ih (b + 1) (c + 1) (by omega) (by omega)
      refine ⟨q, hq, fun post hp => br_f gx (nm_r (nI_1 f) ⟨e f - (f + 1) + 1, ?_⟩), fun post hp => ?_⟩
      · exact if_17 hn hf (by omega) hef (hbf f hf) (fun _ => hX post hp) (fun y => absurd z y) _ (f + 1) 0 (by have := h.2 f; omega) (by omega) (Or.inr ⟨rfl, fun j' q1 q2 => by omega⟩)
      · rw [fu]
        refine br_f gy ⟨n + 1, ?_⟩
        exact if_18 hn ey h h3 he hA0 hA hf (by omega) (fun _ => hY post hp) (fun y => absurd ⟨mt.mpr z, by omega, fun w => by omega⟩ y) n 0 0 (by omega) (Or.inr ⟨rfl, fun j' hj' => absurd hj' (Nat.not_lt_zero _)⟩)
    · obtain ⟨q, hq, hX, hY⟩ := ih (b + 1) c (by omega) (by omega)
      refine ⟨q, hq, fun post hp => br_f gx (nm_r (nI_1 f) ⟨e f - (f + 1) + 1, ?_⟩), fun post hp => ?_⟩
      · exact if_17 hn hf (by omega) hef (hbf f hf) (fun y => absurd y z) (fun _ => hX post hp) _ (f + 1) 0 (by have := h.2 f; omega) (by omega) (Or.inr ⟨rfl, fun j' q1 q2 => by omega⟩)
      · rw [fu]
        refine br_f gy ⟨n + 1, ?_⟩
        exact if_18 hn ey h h3 he hA0 hA hf (by omega) (fun y => absurd (mt.mp y.1) z) (fun _ => hY post hp) n 0 0 (by omega) (Or.inr ⟨rfl, fun j' hj' => absurd hj' (Nat.not_lt_zero _)⟩)
theorem if_3 (hn : n ≤ 48) (ex : f_scriptSize = nI n) (ey : f_length = nI n) (h : tr_T o e) (h3 : ∀ i, o i ≤ 3) (he : e 0 = n) (hA0 : a_above 0 = -1) (hA : ∀ k, 0 < k → k < n → a_above k = nI (tr_pa e k)) (hK : ∀ i, i < n → a_kind i = a_kinds i) (hM : ∀ i, i < n → a_means i = a_meanings i) (hbf : ∀ i, i < n → a_behind i = nI (e i)) (hmj : ∀ b j, b < n → j < n → a_means j = nI b → b < j) :
    ∀ d i c, i + d = n → c ≤ 48 → ∃ r : Int32, (∀ post : Int32 → Prop, post r → wX_mostOutsideVariables_4 post f_tokenCount f_scriptSize f_saidPlace f_activationCount f_variableCount f_functionCount f_generatorCount f_ending f_valueSort f_valueNumber f_noteCount f_stepCount f_latestRun a_tokenKinds a_tokenOperands a_kinds a_operands a_parents a_behind a_ownFns a_meanings a_generatorFns a_frameTokens a_frameStages a_frameScopes a_keptEndings a_keptSorts a_keptNumbers a_frameCounts a_activeSlots a_variableBinders a_variableOuters a_variableSorts a_variableNumbers a_functionTokens a_functionScopes a_generatorStates a_noteSorts a_noteNumbers (d + 1) (nI c) (nI i)) ∧ (∀ post : Int32 → Prop, post r → wY_info_21 post 3 f_drafted f_length f_place f_there f_chains f_functions f_generators f_active f_begins f_token f_chain f_how f_sort f_value f_steps f_endSort f_status f_endNumber f_over f_noted a_draftKind a_draftWith a_kind a_with a_above a_as a_part a_open a_means a_own a_yields a_binder a_outer a_holdsSort a_holds a_fnToken a_fnChain a_state a_gBody a_gChain a_gYield a_closing a_rowOf a_many a_wToken a_wOperand a_wChain a_wSort a_wHow a_wValue a_noteSort a_noteNumber (d + 1) (nI c) (nI i)) := by
  intro d
  induction d with
  | zero =>
    intro i c hi hc
    have hi : i = n := by omega
    subst hi
    exact ⟨nI c, fun _ hp => br_t (by rw [ex]; exact nI_le (Nat.le_refl _) (by omega)) hp, fun _ hp => br_t (by rw [ey]; exact nI_le (Nat.le_refl _) (by omega)) hp⟩
  | succ d ih =>
    intro i c hi hc
    have iv : vp_in (nI i) 48 := vp_in_nI (by omega) (by decide)
    have ei : (nI i).toNatClampNeg = i := nI_clamp (by omega)
    have eK := hK i (by omega)
    have gx : ¬ f_scriptSize ≤ nI i := by rw [ex]; exact nI_ge (by omega) (by omega)
    have gy : ¬ f_length ≤ nI i := by rw [ey]; exact nI_ge (by omega) (by omega)
    by_cases z : a_kinds i = 5
    · obtain ⟨q, hq, oX, oY⟩ := if_out (f := i) hn ex ey h h3 he hA0 hA hM hbf (by omega) hmj i 0 0 (by omega) (Nat.le_refl _)
      by_cases y : q ≤ c
      · obtain ⟨r, hX, hY⟩ := ih (i + 1) c (by omega) hc
        have le : nI q ≤ nI c := nI_le y (by omega)
        refine ⟨r, fun post hp => br_f gx ⟨iv, br_t (by rw [ei]; exact z) ⟨_, oX _ (br_t le (nm_r (nI_1 i) (hX post hp)))⟩⟩, fun post hp => br_f gy (br_f (by decide) ⟨iv, br_t (by rw [ei, eK]; exact z) (br_f (by decide) (br_f (by decide) (br_t rfl ⟨_, oY _ (br_t le (nm_r (nI_1 i) (hY post hp)))⟩)))⟩)⟩
      · obtain ⟨r, hX, hY⟩ := ih (i + 1) q (by omega) (by omega)
        have gt : ¬ nI q ≤ nI c := nI_ge (by omega) (by omega)
        refine ⟨r, fun post hp => br_f gx ⟨iv, br_t (by rw [ei]; exact z) ⟨_, oX _ (br_f gt (nm_r (nI_1 i) (hX post hp)))⟩⟩, fun post hp => br_f gy (br_f (by decide) ⟨iv, br_t (by rw [ei, eK]; exact z) (br_f (by decide) (br_f (by decide) (br_t rfl ⟨_, oY _ (br_f gt (br_t rfl (nm_r (nI_1 i) (hY post hp))))⟩)))⟩)⟩
    · obtain ⟨r, hX, hY⟩ := ih (i + 1) c (by omega) hc
      exact ⟨r, fun post hp => br_f gx ⟨iv, br_f (by rw [ei]; exact z) (br_t (nI_pos' (by omega)) (nm_r (nI_1 i) (hX post hp)))⟩, fun post hp => br_f gy (br_f (by decide) ⟨iv, br_f (by rw [ei, eK]; exact z) (nm_r (nI_1 i) (hY post hp))⟩)⟩
end
theorem i_vc_info {k : Nat} {u : SX} {v : SY} (I : i_Rel k u v) (hk : k + 3 ≤ 1536) (v1 : Int32) : wpX_info (fun r => wpY_info (fun r' => r' = r ∧ i_Rel (k + 3) u v) v v1) u v1 := by
  obtain ⟨f_tokenCount, f_scriptSize, f_saidPlace, f_activationCount, f_variableCount, f_functionCount, f_generatorCount, f_ending, f_valueSort, f_valueNumber, f_noteCount, f_stepCount, f_latestRun, a_tokenKinds, a_tokenOperands, a_kinds, a_operands, a_parents, a_behind, a_ownFns, a_meanings, a_generatorFns, a_frameTokens, a_frameStages, a_frameScopes, a_keptEndings, a_keptSorts, a_keptNumbers, a_frameCounts, a_activeSlots, a_variableBinders, a_variableOuters, a_variableSorts, a_variableNumbers, a_functionTokens, a_functionScopes, a_generatorStates, a_noteSorts, a_noteNumbers⟩ := u
  obtain ⟨f_drafted, f_length, f_place, f_there, f_chains, f_functions, f_generators, f_active, f_begins, f_token, f_chain, f_how, f_sort, f_value, f_steps, f_endSort, f_status, f_endNumber, f_over, f_noted, a_draftKind, a_draftWith, a_kind, a_with, a_above, a_as, a_part, a_open, a_means, a_own, a_yields, a_binder, a_outer, a_holdsSort, a_holds, a_fnToken, a_fnChain, a_state, a_gBody, a_gChain, a_gYield, a_closing, a_rowOf, a_many, a_wToken, a_wOperand, a_wChain, a_wSort, a_wHow, a_wValue, a_noteSort, a_noteNumber⟩ := v
  have I0 : il_R (f_tokenCount, f_scriptSize, f_saidPlace, f_activationCount, f_variableCount, f_functionCount, f_generatorCount, f_ending, f_valueSort, f_valueNumber, f_noteCount, f_stepCount, f_latestRun, a_tokenKinds, a_tokenOperands, a_kinds, a_operands, a_parents, a_behind, a_ownFns, a_meanings, a_generatorFns, a_frameTokens, a_frameStages, a_frameScopes, a_keptEndings, a_keptSorts, a_keptNumbers, a_frameCounts, a_activeSlots, a_variableBinders, a_variableOuters, a_variableSorts, a_variableNumbers, a_functionTokens, a_functionScopes, a_generatorStates, a_noteSorts, a_noteNumbers) (f_drafted, f_length, f_place, f_there, f_chains, f_functions, f_generators, f_active, f_begins, f_token, f_chain, f_how, f_sort, f_value, f_steps, f_endSort, f_status, f_endNumber, f_over, f_noted, a_draftKind, a_draftWith, a_kind, a_with, a_above, a_as, a_part, a_open, a_means, a_own, a_yields, a_binder, a_outer, a_holdsSort, a_holds, a_fnToken, a_fnChain, a_state, a_gBody, a_gChain, a_gYield, a_closing, a_rowOf, a_many, a_wToken, a_wOperand, a_wChain, a_wSort, a_wHow, a_wValue, a_noteSort, a_noteNumber) := I
  obtain ⟨⟨nt, hnt, rfl, rfl, hkd⟩, rfl, rfl, rfl, hT, ⟨rfl, rfl, rfl, rfl, rfl, rfl⟩, ⟨rfl, rfl, rfl, rfl⟩, ⟨gc, hgc, rfl, rfl, hG⟩, hE⟩ := I
  rcases hT with ⟨rfl, rfl⟩ | ⟨n, hn0, hn48, rfl, rfl, rfl, w, hw, hw2, hwn, rfl, rfl, rfl, rfl, hbx, hfx, hky, hpy, hfy, hay0, hay⟩
  · exact br_t rfl (br_t rfl ⟨rfl, I0⟩)
  · have n0 : ¬ nI n = 0 := nI_ne0 hn0 (by omega)
    have t1 : ¬ (1 : Int32) = 0 := by decide
    have hK : ∀ i, i < n → a_kind i = gw_K w i := fun i hi => (hky i hi).1
    have hM : ∀ i, i < n → a_means i = gw_mn w i := fun i hi => (hky i hi).2.2.1
    have hW : ∀ i, i < n → a_own i = a_ownFns i := fun i hi => by rw [hfy i hi, hfx i hi]
    have hgy : ∀ i, i < n → a_yields i = gw_gn w i := fun i hi => (hky i hi).2.2.2
    have h5 : ∀ i, i < n → gw_gn w i = 0 ∨ (gw_gn w i = 1 ∧ gw_K w i = 5) := by
      intro i hi
      rcases hw.2.2.2.2.2.2.2.2.2.2.1 i (by rw [hwn]; exact hi) with q | q
      · exact Or.inl q
      · exact Or.inr ⟨q, hw2.2.1 i (by rw [hwn]; exact hi) q⟩
    have hmj : ∀ b j, b < n → j < n → gw_mn w j = nI b → b < j ∧ (gw_K w b = 5 ∨ gw_K w b = 4 ∨ gw_K w b = 20) := by
      intro b j hb hj q
      rcases hw2.2.2.1 j (by rw [hwn]; exact hj) with y | ⟨b', hb', y⟩
      · rw [y] at q
        exact absurd q (rt_m1 (by omega))
      · have f := hw2.2.2.2 j (by rw [hwn]; exact hj) b' hb'
        rw [y, nI_eq (by omega) (by omega)] at q
        subst q
        exact ⟨f.1, f.2.2⟩
    by_cases c : ∃ j, j < 4 ∧ v1 = nI j
    · obtain ⟨j, hj, rfl⟩ := c
      have c0 : ¬ nI j < 0 := nI_pos (by omega)
      have c3 : ¬ (3 : Int32) < nI j := nI_nlt (a := 3) (by omega) (by decide)
      have Yin : ∀ (r : Int32), (∀ post : Int32 → Prop, post r → ∃ n21, wY_info_21 post (nI j) (nI nt) (nI n) f_place 1 f_chains f_functions (nI gc) f_active f_begins f_token f_chain f_how f_sort f_value f_steps f_endSort f_status f_endNumber f_over f_noted a_draftKind a_draftWith a_kind a_with a_above a_as a_part a_open a_means a_own a_yields a_binder a_outer a_holdsSort a_holds a_fnToken a_fnChain a_state a_gBody a_gChain a_gYield a_closing a_rowOf a_many a_wToken a_wOperand a_wChain a_wSort a_wHow a_wValue a_noteSort a_noteNumber n21 0 0) → wpY_info (fun r' => r' = r ∧ il_R (nI nt, nI n, f_place, f_activationCount, f_variableCount, f_functionCount, nI gc, f_ending, f_valueSort, f_valueNumber, f_noted, f_steps, f_latestRun, a_draftKind, a_draftWith, gw_K w, gw_v w, a_parents, a_behind, a_ownFns, gw_mn w, gw_gn w, a_frameTokens, a_frameStages, a_frameScopes, a_keptEndings, a_keptSorts, a_keptNumbers, a_frameCounts, a_activeSlots, a_binder, a_outer, a_holdsSort, a_holds, a_fnToken, a_fnChain, a_generatorStates, a_noteSort, a_noteNumber) (nI nt, nI n, f_place, 1, f_chains, f_functions, nI gc, f_active, f_begins, f_token, f_chain, f_how, f_sort, f_value, f_steps, f_endSort, f_status, f_endNumber, f_over, f_noted, a_draftKind, a_draftWith, a_kind, a_with, a_above, a_as, a_part, a_open, a_means, a_own, a_yields, a_binder, a_outer, a_holdsSort, a_holds, a_fnToken, a_fnChain, a_state, a_gBody, a_gChain, a_gYield, a_closing, a_rowOf, a_many, a_wToken, a_wOperand, a_wChain, a_wSort, a_wHow, a_wValue, a_noteSort, a_noteNumber)) (nI nt, nI n, f_place, 1, f_chains, f_functions, nI gc, f_active, f_begins, f_token, f_chain, f_how, f_sort, f_value, f_steps, f_endSort, f_status, f_endNumber, f_over, f_noted, a_draftKind, a_draftWith, a_kind, a_with, a_above, a_as, a_part, a_open, a_means, a_own, a_yields, a_binder, a_outer, a_holdsSort, a_holds, a_fnToken, a_fnChain, a_state, a_gBody, a_gChain, a_gYield, a_closing, a_rowOf, a_many, a_wToken, a_wOperand, a_wChain, a_wSort, a_wHow, a_wValue, a_noteSort, a_noteNumber) (nI j) := by
        intro r hr
        refine br_f t1 ?_
        exact il_in (n := 4) (by decide) (fun z => absurd rfl (z j hj)) (fun i hi e => br_f (by decide) (hr _ ⟨rfl, I0⟩))
      have : j = 0 ∨ j = 1 ∨ j = 2 ∨ j = 3 := by omega
      rcases this with rfl | rfl | rfl | rfl
      · obtain ⟨r, hX, hY⟩ := if_0 hn48 rfl rfl hK n 0 0 (by omega) (Nat.le_refl _)
        exact br_f n0 (br_f c0 (br_f c3 (br_t rfl ⟨_, hX _ (Yin r (fun post hp => ⟨_, hY post hp⟩))⟩)))
      · obtain ⟨r, hX, hY⟩ := if_1 hn48 rfl rfl hK hgy h5 n 0 0 (by omega) (Nat.le_refl _)
        exact br_f n0 (br_f c0 (br_f c3 (br_f (by decide) (br_t rfl ⟨_, hX _ (Yin r (fun post hp => ⟨_, hY post hp⟩))⟩))))
      · obtain ⟨r, hX, hY⟩ := if_2 hn48 rfl rfl hK hM hW hmj n 0 0 (by omega) (Nat.le_refl _)
        exact br_f n0 (br_f c0 (br_f c3 (br_f (by decide) (br_f (by decide) (br_t rfl ⟨_, hX _ (Yin r (fun post hp => ⟨_, hY post hp⟩))⟩)))))
      · have h3 : ∀ i, gw_o w i ≤ 3 := hw2.1
        obtain ⟨r, hX, hY⟩ := if_3 (o := gw_o w) (e := gw_e w) hn48 rfl rfl hw.1 h3 (by rw [hw.2.1, hwn]) hay0 hay hK hM hbx (fun b j hb hj q => (hmj b j hb hj (by rw [← hM j hj]; exact q)).1) n 0 0 (by omega) (by omega)
        exact br_f n0 (br_f c0 (br_f c3 (br_f (by decide) (br_f (by decide) (br_f (by decide) (br_t rfl ⟨_, hX _ (Yin r (fun post hp => ⟨_, hY post hp⟩))⟩))))))
    · have Y0 : wpY_info (fun r' => r' = -1 ∧ il_R (nI nt, nI n, f_place, f_activationCount, f_variableCount, f_functionCount, nI gc, f_ending, f_valueSort, f_valueNumber, f_noted, f_steps, f_latestRun, a_draftKind, a_draftWith, gw_K w, gw_v w, a_parents, a_behind, a_ownFns, gw_mn w, gw_gn w, a_frameTokens, a_frameStages, a_frameScopes, a_keptEndings, a_keptSorts, a_keptNumbers, a_frameCounts, a_activeSlots, a_binder, a_outer, a_holdsSort, a_holds, a_fnToken, a_fnChain, a_generatorStates, a_noteSort, a_noteNumber) (nI nt, nI n, f_place, 1, f_chains, f_functions, nI gc, f_active, f_begins, f_token, f_chain, f_how, f_sort, f_value, f_steps, f_endSort, f_status, f_endNumber, f_over, f_noted, a_draftKind, a_draftWith, a_kind, a_with, a_above, a_as, a_part, a_open, a_means, a_own, a_yields, a_binder, a_outer, a_holdsSort, a_holds, a_fnToken, a_fnChain, a_state, a_gBody, a_gChain, a_gYield, a_closing, a_rowOf, a_many, a_wToken, a_wOperand, a_wChain, a_wSort, a_wHow, a_wValue, a_noteSort, a_noteNumber)) (nI nt, nI n, f_place, 1, f_chains, f_functions, nI gc, f_active, f_begins, f_token, f_chain, f_how, f_sort, f_value, f_steps, f_endSort, f_status, f_endNumber, f_over, f_noted, a_draftKind, a_draftWith, a_kind, a_with, a_above, a_as, a_part, a_open, a_means, a_own, a_yields, a_binder, a_outer, a_holdsSort, a_holds, a_fnToken, a_fnChain, a_state, a_gBody, a_gChain, a_gYield, a_closing, a_rowOf, a_many, a_wToken, a_wOperand, a_wChain, a_wSort, a_wHow, a_wValue, a_noteSort, a_noteNumber) v1 := by
        refine br_f t1 ?_
        exact il_in (n := 4) (by decide) (fun z => br_t rfl ⟨rfl, I0⟩) (fun i hi e => absurd ⟨i, hi, e⟩ c)
      refine br_f n0 (br_c (fun _ => Y0) (fun d => br_t ?_ Y0))
      obtain ⟨j, hj, rfl⟩ := nI_of d
      by_cases y : j < 4
      · exact absurd ⟨j, y, rfl⟩ c
      · exact nI_lt (a := 3) (by omega) hj
end
