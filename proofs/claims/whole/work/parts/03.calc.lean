def ca_in (z : Int) : Prop := -9223372036854775808 ≤ z ∧ z < 9223372036854775808
theorem ca_rng (a : Int64) : ca_in a.toInt := ⟨by have := Int64.le_toInt a; omega, by have := Int64.toInt_lt a; omega⟩
theorem ca_0 : (0 : Int64).toInt = 0 := by decide
theorem ca_m1 : (-1 : Int64).toInt = -1 := by decide
theorem ca_bm (z : Int) : ∃ q : Int, z.bmod (2 ^ 64) = z - 18446744073709551616 * q ∧ ca_in (z.bmod (2 ^ 64)) := by
  have e : (2 : Nat) ^ 64 = 18446744073709551616 := by decide
  rw [e]
  have h1 := Int.bmod_add_bdiv z 18446744073709551616
  have h2 := Int.bmod_lt (x := z) (m := 18446744073709551616) (by decide)
  have h3 := Int.le_bmod (x := z) (m := 18446744073709551616) (by decide)
  refine ⟨z.bdiv 18446744073709551616, by omega, ?_, ?_⟩
  · have : ((18446744073709551616 : Nat) : Int) = 18446744073709551616 := rfl
    omega
  · have : ((18446744073709551616 : Nat) : Int) = 18446744073709551616 := rfl
    omega
theorem ca_bmi {z : Int} (h : ca_in z) : z.bmod (2 ^ 64) = z := by
  obtain ⟨q, e, h2⟩ := ca_bm z
  unfold ca_in at h h2
  rw [e] at h2 ⊢
  have : q = 0 := by omega
  rw [this]
  omega
theorem ca_neg (a : Int64) : a < 0 ↔ a.toBitVec.msb = true := by
  rw [Int64.lt_iff_toInt_lt, BitVec.msb_eq_toInt, ca_0]
  exact decide_eq_true_iff.symm
theorem ca_and (a b : Int64) : (a &&& b) < 0 ↔ (a < 0 ∧ b < 0) := by
  rw [ca_neg, ca_neg, ca_neg, Int64.toBitVec_and, BitVec.msb_and]
  cases a.toBitVec.msb <;> cases b.toBitVec.msb <;> simp
theorem ca_xor (a b : Int64) : (a ^^^ b) < 0 ↔ ¬ (a < 0 ↔ b < 0) := by
  rw [ca_neg, ca_neg, ca_neg, Int64.toBitVec_xor, BitVec.msb_xor]
  cases a.toBitVec.msb <;> cases b.toBitVec.msb <;> simp
theorem ca_addX (x y : Int64) : ((x ^^^ (x + y)) &&& (y ^^^ (x + y))) < 0 ↔ ¬ ca_in (x.toInt + y.toInt) := by
  rw [ca_and, ca_xor, ca_xor]
  simp only [Int64.lt_iff_toInt_lt, ca_0, Int64.toInt_add]
  have hx := ca_rng x
  have hy := ca_rng y
  obtain ⟨q, e, h2⟩ := ca_bm (x.toInt + y.toInt)
  rw [e] at h2 ⊢
  unfold ca_in at *
  omega
theorem ca_addY1 (x y : Int64) (h : 0 < y) : x + y < x ↔ ¬ ca_in (x.toInt + y.toInt) := by
  rw [Int64.lt_iff_toInt_lt] at *
  rw [ca_0] at h
  rw [Int64.toInt_add]
  have hx := ca_rng x
  have hy := ca_rng y
  obtain ⟨q, e, h2⟩ := ca_bm (x.toInt + y.toInt)
  rw [e] at h2 ⊢
  unfold ca_in at *
  omega
theorem ca_addY2 (x y : Int64) (h : ¬ 0 < y) : x < x + y ↔ ¬ ca_in (x.toInt + y.toInt) := by
  rw [Int64.lt_iff_toInt_lt] at *
  rw [ca_0] at h
  rw [Int64.toInt_add]
  have hx := ca_rng x
  have hy := ca_rng y
  obtain ⟨q, e, h2⟩ := ca_bm (x.toInt + y.toInt)
  rw [e] at h2 ⊢
  unfold ca_in at *
  omega
theorem ca_subX (x y : Int64) : ((x ^^^ y) &&& (x ^^^ (x - y))) < 0 ↔ ¬ ca_in (x.toInt - y.toInt) := by
  rw [ca_and, ca_xor, ca_xor]
  simp only [Int64.lt_iff_toInt_lt, ca_0, Int64.toInt_sub]
  have hx := ca_rng x
  have hy := ca_rng y
  obtain ⟨q, e, h2⟩ := ca_bm (x.toInt - y.toInt)
  rw [e] at h2 ⊢
  unfold ca_in at *
  omega
theorem ca_subY1 (x y : Int64) (h : 0 < y) : x < x - y ↔ ¬ ca_in (x.toInt - y.toInt) := by
  rw [Int64.lt_iff_toInt_lt] at *
  rw [ca_0] at h
  rw [Int64.toInt_sub]
  have hx := ca_rng x
  have hy := ca_rng y
  obtain ⟨q, e, h2⟩ := ca_bm (x.toInt - y.toInt)
  rw [e] at h2 ⊢
  unfold ca_in at *
  omega
theorem ca_subY2 (x y : Int64) (h : ¬ 0 < y) : x - y < x ↔ ¬ ca_in (x.toInt - y.toInt) := by
  rw [Int64.lt_iff_toInt_lt] at *
  rw [ca_0] at h
  rw [Int64.toInt_sub]
  have hx := ca_rng x
  have hy := ca_rng y
  obtain ⟨q, e, h2⟩ := ca_bm (x.toInt - y.toInt)
  rw [e] at h2 ⊢
  unfold ca_in at *
  omega
theorem ca_tdr {r b : Int} (hr : ca_in r) (h1 : b ≠ -1) : ca_in (r.tdiv b) := by
  have e : (r.tdiv b).natAbs = r.natAbs / b.natAbs := Int.natAbs_tdiv r b
  unfold ca_in at *
  by_cases z : b = 1
  · subst z
    rw [Int.tdiv_one]
    exact hr
  · by_cases z0 : b = 0
    · subst z0
      rw [Int.tdiv_zero]
      omega
    · have hb : 2 ≤ b.natAbs := by omega
      have h3 : r.natAbs / b.natAbs ≤ r.natAbs / 2 := Nat.div_le_div_left hb (by decide)
      omega
theorem ca_mulI {a b r q : Int} (hb : ca_in b) (h0 : b ≠ 0) (hr : ca_in r) (e : r = a * b - 18446744073709551616 * q) : r.tdiv b ≠ a ↔ ¬ ca_in (a * b) := by
  constructor
  · intro h hin
    apply h
    have : r = a * b := by
      unfold ca_in at *
      generalize a * b = p at *
      omega
    rw [this]
    exact Int.mul_tdiv_cancel a h0
  · intro h heq
    apply h
    have h1 := Int.mul_tdiv_add_tmod r b
    have h2 : (r.tmod b).natAbs < b.natAbs := by
      rw [Int.natAbs_tmod]
      exact Nat.mod_lt _ (by omega)
    rw [heq, Int.mul_comm b a] at h1
    have hbn : b.natAbs ≤ 9223372036854775808 := by unfold ca_in at hb; omega
    generalize r.tmod b = t at *
    generalize a * b = p at *
    unfold ca_in at *
    have : q = 0 := by omega
    omega
theorem ca_div (x y : Int64) (h : y ≠ -1) : (x / y).toInt = x.toInt.tdiv y.toInt := by
  rw [Int64.toInt_div]
  refine ca_bmi (ca_tdr (ca_rng x) ?_)
  intro z
  apply h
  apply Int64.toInt_inj.mp
  rw [z, ca_m1]
theorem ca_mulX (x y : Int64) (h0 : y ≠ 0) (h1 : y ≠ -1) : (x * y) / y ≠ x ↔ ¬ ca_in (x.toInt * y.toInt) := by
  show ¬ ((x * y) / y = x) ↔ _
  rw [← Int64.toInt_inj, ca_div _ _ h1, Int64.toInt_mul]
  obtain ⟨q, e, h2⟩ := ca_bm (x.toInt * y.toInt)
  refine ca_mulI (ca_rng y) ?_ h2 e
  intro z
  apply h0
  apply Int64.toInt_inj.mp
  rw [z, ca_0]
theorem ca_mulY (x y : Int64) (h0 : x ≠ 0) (h1 : x ≠ -1) : (x * y) / x ≠ y ↔ ¬ ca_in (x.toInt * y.toInt) := by
  rw [Int64.mul_comm, Int.mul_comm]
  exact ca_mulX y x h0 h1
theorem ca_mulXm (x : Int64) : (x < 0 ∧ x * (-1) < 0) ↔ ¬ ca_in (x.toInt * (-1 : Int64).toInt) := by
  simp only [Int64.lt_iff_toInt_lt, ca_0, Int64.toInt_mul, ca_m1]
  have hx := ca_rng x
  obtain ⟨q, e, h2⟩ := ca_bm (x.toInt * -1)
  rw [e] at h2 ⊢
  unfold ca_in at *
  omega
theorem ca_mulYm (y : Int64) : (y = -1 * y ∧ y < 0) ↔ ¬ ca_in ((-1 : Int64).toInt * y.toInt) := by
  rw [← Int64.toInt_inj]
  simp only [Int64.lt_iff_toInt_lt, ca_0, Int64.toInt_mul, ca_m1]
  have hy := ca_rng y
  obtain ⟨q, e, h2⟩ := ca_bm (-1 * y.toInt)
  rw [e] at h2 ⊢
  unfold ca_in at *
  omega
theorem ca_divm (x : Int64) : (x < 0 ∧ x / (-1) < 0) ↔ (x < 0 ∧ -x = x) := by
  rw [← Int64.toInt_inj, Int64.lt_iff_toInt_lt, Int64.lt_iff_toInt_lt, ca_0, Int64.toInt_div, ca_m1, Int64.toInt_neg]
  have hx := ca_rng x
  have e0 : x.toInt.tdiv (-1) = - x.toInt := by rw [Int.tdiv_neg, Int.tdiv_one]
  rw [e0]
  obtain ⟨q, e, h2⟩ := ca_bm (- x.toInt)
  rw [e] at h2 ⊢
  unfold ca_in at *
  omega
