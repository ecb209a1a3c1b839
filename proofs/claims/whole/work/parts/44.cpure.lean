def cm_fb (O : Nat → Int32) (nm : Int32) : List Nat → Int32
  | [] => -1
  | b :: l => if O b = nm then nI b else cm_fb O nm l
theorem cm_fb1 (O : Nat → Int32) (nm : Int32) : ∀ l, cm_fb O nm l = -1 ∨ ∃ b, b ∈ l ∧ cm_fb O nm l = nI b := by
  intro l
  induction l with
  | nil => exact Or.inl rfl
  | cons b l ih =>
    show (if O b = nm then nI b else cm_fb O nm l) = -1 ∨ ∃ b', b' ∈ b :: l ∧ (if O b = nm then nI b else cm_fb O nm l) = nI b'
    split
    · exact Or.inr ⟨b, List.mem_cons_self .., rfl⟩
    · rcases ih with h | ⟨b', h, e⟩
      · exact Or.inl h
      · exact Or.inr ⟨b', List.mem_cons_of_mem _ h, e⟩
def cm_m (K O : Nat → Int32) (e : Nat → Nat) (i : Nat) : Int32 := if K i = 2 ∨ K i = 3 then cm_fb O (O i) (gs_sc K e i) else -1
def cm_g (K w : Nat → Int32) (g : Nat → Int32) : Nat → (Nat → Int32)
  | 0 => g
  | i + 1 => if K i = 22 ∧ ¬ w i < 0 then upd (upd (cm_g K w g i) i 0) (w i).toNatClampNeg 1 else upd (cm_g K w g i) i 0
def cm_W (K w : Nat → Int32) (n : Nat) : Prop := ∀ i, i < n → w i = -1 ∨ ∃ f, f < i ∧ w i = nI f ∧ K f = 5
theorem cm_ng {n : Nat} (h : n < 2 ^ 31) : ¬ (nI n : Int32) < 0 := nI_pos h
theorem cm_g01 {K w g : Nat → Int32} {n : Nat} (hn : n ≤ 48) (hW : cm_W K w n) : ∀ i, i ≤ n → ∀ j, j < i → (cm_g K w g i j = 0 ∨ cm_g K w g i j = 1) ∧ (cm_g K w g i j = 1 → K j = 5) := by
  intro i
  induction i with
  | zero => intro _ j hj; omega
  | succ i ih =>
    intro hi j hj
    have base : (upd (cm_g K w g i) i 0 j = 0 ∨ upd (cm_g K w g i) i 0 j = 1) ∧ (upd (cm_g K w g i) i 0 j = 1 → K j = 5) := by
      by_cases z : j = i
      · subst z
        rw [pk_us]
        exact ⟨Or.inl rfl, fun c => absurd c (by decide)⟩
      · rw [pk_un z]
        exact ih (by omega) j (by omega)
    rw [show cm_g K w g (i + 1) = (if K i = 22 ∧ ¬ w i < 0 then upd (upd (cm_g K w g i) i 0) (w i).toNatClampNeg 1 else upd (cm_g K w g i) i 0) from rfl]
    split
    · rename_i c
      rcases hW i (by omega) with e | ⟨f, hf, e, k5⟩
      · rw [e] at c
        exact absurd c.2 (by decide)
      · rw [e, nI_clamp (by omega)]
        by_cases z : j = f
        · subst z
          rw [pk_us]
          exact ⟨Or.inr rfl, fun _ => k5⟩
        · rw [pk_un z]
          exact base
    · exact base
theorem cm_gk {K w g : Nat → Int32} {n : Nat} (hn : n ≤ 48) (hW : cm_W K w n) {f : Nat} : ∀ d i, f < i → i + d ≤ n → cm_g K w g i f = 1 → cm_g K w g (i + d) f = 1 := by
  intro d
  induction d with
  | zero => intro i _ _ h; exact h
  | succ d ih =>
    intro i hf hi h
    have h1 := ih i hf (by omega) h
    show (if K (i + d) = 22 ∧ ¬ w (i + d) < 0 then upd (upd (cm_g K w g (i + d)) (i + d) 0) (w (i + d)).toNatClampNeg 1 else upd (cm_g K w g (i + d)) (i + d) 0) f = 1
    split
    · by_cases z : f = (w (i + d)).toNatClampNeg
      · rw [← z, pk_us]
      · rw [pk_un z, pk_un (by omega)]
        exact h1
    · rw [pk_un (by omega)]
      exact h1
theorem cm_gy {K w g : Nat → Int32} {n i f : Nat} (hn : n ≤ 48) (hW : cm_W K w n) (hi : i < n) (hk : K i = 22) (hf : w i = nI f) (hfi : f < i) : cm_g K w g n f = 1 := by
  have h : cm_g K w g (i + 1) f = 1 := by
    show (if K i = 22 ∧ ¬ w i < 0 then upd (upd (cm_g K w g i) i 0) (w i).toNatClampNeg 1 else upd (cm_g K w g i) i 0) f = 1
    rw [if_pos ⟨hk, by rw [hf]; exact nI_pos (by omega)⟩, hf, nI_clamp (by omega), pk_us]
  have h2 := cm_gk (g := g) hn hW (f := f) (n - (i + 1)) (i + 1) (by omega) (by omega) h
  rw [show i + 1 + (n - (i + 1)) = n by omega] at h2
  exact h2
theorem cm_ge {K w g g' : Nat → Int32} : ∀ i j, j < i → cm_g K w g i j = cm_g K w g' i j := by
  intro i
  induction i with
  | zero => intro j hj; omega
  | succ i ih =>
    intro j hj
    have base : upd (cm_g K w g i) i 0 j = upd (cm_g K w g' i) i 0 j := by
      by_cases z : j = i
      · subst z
        rw [pk_us, pk_us]
      · rw [pk_un z, pk_un z]
        exact ih j (by omega)
    show (if K i = 22 ∧ ¬ w i < 0 then upd (upd (cm_g K w g i) i 0) (w i).toNatClampNeg 1 else upd (cm_g K w g i) i 0) j = (if K i = 22 ∧ ¬ w i < 0 then upd (upd (cm_g K w g' i) i 0) (w i).toNatClampNeg 1 else upd (cm_g K w g' i) i 0) j
    split
    · by_cases z : j = (w i).toNatClampNeg
      · rw [← z, pk_us, pk_us]
      · rw [pk_un z, pk_un z]
        exact base
    · exact base
theorem cm_gc {K K' w w' g : Nat → Int32} : ∀ i, (∀ j, j < i → K j = K' j ∧ w j = w' j) → cm_g K w g i = cm_g K' w' g i := by
  intro i
  induction i with
  | zero => intro _; rfl
  | succ i ih =>
    intro h
    show (if K i = 22 ∧ ¬ w i < 0 then upd (upd (cm_g K w g i) i 0) (w i).toNatClampNeg 1 else upd (cm_g K w g i) i 0) = (if K' i = 22 ∧ ¬ w' i < 0 then upd (upd (cm_g K' w' g i) i 0) (w' i).toNatClampNeg 1 else upd (cm_g K' w' g i) i 0)
    rw [ih (fun j hj => h j (by omega)), (h i (by omega)).1, (h i (by omega)).2]
theorem cm_ow {n : Nat} {K : Nat → Int32} {e : Nat → Nat} (h : tr_T (gs_o n K) e) (h0 : e 0 = n) : cm_W K (gs_ow K e) n := by
  intro i
  induction i using Nat.strongRecOn with
  | ind i ih =>
    intro hi
    by_cases z : i = 0
    · subst z
      exact Or.inl rfl
    · have hp := tr_pk (k := i) h (gs_o3 n K) (by omega) (by omega)
      rw [gs_owp (k := i) h (gs_o3 n K) (by omega) (by omega)]
      split
      · rename_i c
        exact Or.inr ⟨_, hp.1, rfl, c⟩
      · rcases ih _ hp.1 (by omega) with c | ⟨f, hf, e1, e2⟩
        · exact Or.inl c
        · exact Or.inr ⟨f, by omega, e1, e2⟩
def cm_pl (e0 nt : Nat) : Int32 := if e0 = nt then -1 else if e0 < nt then nI e0 else nI nt
theorem cm_pl0 {e0 nt : Nat} (h : e0 = nt) : cm_pl e0 nt = -1 := if_pos h
theorem cm_pl1 {e0 nt : Nat} (h : e0 < nt) : cm_pl e0 nt = nI e0 := by unfold cm_pl; rw [if_neg (by omega), if_pos h]
theorem cm_pl2 {e0 nt : Nat} (h : nt < e0) : cm_pl e0 nt = nI nt := by unfold cm_pl; rw [if_neg (by omega), if_neg (by omega)]
theorem cm_bd {n : Nat} {K : Nat → Int32} {e : Nat → Nat} (h : tr_T (gs_o n K) e) {k : Nat} (hk0 : 0 < k) (hk : k < e 0) (hn : e 0 = n) :
    (gw_bd (K (tr_pa e k)) (tr_ix e k) ↔ (K (tr_pa e k) = 5 ∨ (K (tr_pa e k) = 4 ∨ K (tr_pa e k) = 20) ∧ k ≠ tr_pa e k + 1)) ∧
    (K (tr_pa e k) = 14 → (tr_ix e k = 1 ↔ k ≠ tr_pa e k + 1)) := by
  have hp := tr_pk h (gs_o3 n K) hk0 hk
  have ho := gs_oi n K (tr_pa e k) (by omega)
  have key : gw_op (K (tr_pa e k)) = 2 → (tr_ix e k = 1 ↔ k ≠ tr_pa e k + 1) := by
    intro o2
    rw [o2] at ho
    have h1 := hp.2.1
    rw [ho] at h1
    constructor
    · intro z y
      have h3 := hp.2.2
      rw [z] at h3
      have h4 := tr_cgt h (tr_pa e k) 0
      have h5 : tr_c e (tr_pa e k) 0 < tr_c e (tr_pa e k) 1 := tr_cs h _ 0
      have h6 : tr_c e (tr_pa e k) 0 = tr_pa e k + 1 := rfl
      omega
    · intro z
      have h2 : tr_ix e k = 0 ∨ tr_ix e k = 1 := by omega
      rcases h2 with y | y
      · have h3 := hp.2.2
        rw [y] at h3
        have h6 : tr_c e (tr_pa e k) 0 = tr_pa e k + 1 := rfl
        omega
      · exact y
  refine ⟨?_, fun z => key (by rw [z]; decide)⟩
  constructor
  · rintro (z | ⟨z, y⟩)
    · exact Or.inl z
    · exact Or.inr ⟨z, (key (by rcases z with z | z <;> (rw [z]; decide))).mp y⟩
  · rintro (z | ⟨z, y⟩)
    · exact Or.inl z
    · exact Or.inr ⟨z, (key (by rcases z with z | z <;> (rw [z]; decide))).mpr y⟩
