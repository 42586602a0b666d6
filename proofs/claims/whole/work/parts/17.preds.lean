/-! which numbers are rows; which frames have the same cells -/
theorem ks_e0 {x : Nat} (h : x ≤ 33) : ks_e x = -1 ↔ x = 0 := by
  unfold ks_e
  constructor
  · intro e
    by_cases h0 : x = 0
    · exact h0
    · rw [if_neg h0] at e
      have h1 : ¬ nI (x - 1) < 0 := nI_pos (by omega)
      rw [e] at h1
      exact absurd (by decide) h1
  · intro e
    rw [if_pos e]
theorem ks_es {x : Nat} (h : x ≠ 0) : ks_e x = nI (x - 1) := if_neg h
theorem ks_nlt {x : Int32} {n : Nat} (hn : n < 2 ^ 31) (h : nI n ≤ x) : ¬ x < 0 := by
  intro h0
  rw [Int32.le_iff_toInt_le, nI_toInt hn] at h
  rw [Int32.lt_iff_toInt_lt, Int32.toInt_zero] at h0
  omega
def ks_row (S : ks_T) (x : Int32) : Bool := decide (¬ x < 0) && decide (¬ nI 40 ≤ x) && decide (ks_P S x.toNatClampNeg ≠ 0)
theorem ks_row_lo {S : ks_T} {x : Int32} (h : x < 0) : ks_row S x = false := by
  unfold ks_row
  rw [decide_eq_false (p := ¬ x < 0) (fun z => z h)]
  rfl
theorem ks_row_hi {S : ks_T} {x : Int32} (h : nI 40 ≤ x) : ks_row S x = false := by
  unfold ks_row
  rw [decide_eq_false (p := ¬ nI 40 ≤ x) (fun z => z h), Bool.and_false]
  rfl
theorem ks_row_at {S : ks_T} {j : Nat} (hj : j < 40) : ks_row S (nI j) = decide (ks_P S j ≠ 0) := by
  unfold ks_row
  rw [nI_clamp (by omega), decide_eq_true (p := ¬ nI j < 0) (nI_pos (by omega)), decide_eq_true (p := ¬ nI 40 ≤ nI j) (nI_ge hj (by omega))]
  rfl
theorem ks_row_ex {S : ks_T} {x : Int32} (h : ks_row S x = true) : ∃ j, j < 40 ∧ x = nI j ∧ ks_P S j ≠ 0 := by
  rcases pk_ix x (n := 40) (by omega) with h1 | h1 | ⟨j, hj, rfl⟩
  · rw [ks_row_lo h1] at h
    cases h
  · rw [ks_row_hi h1] at h
    cases h
  · rw [ks_row_at hj] at h
    exact ⟨j, hj, rfl, of_decide_eq_true h⟩
def ks_same (S : ks_T) (f g : Nat) : Bool := (List.range 8).all (fun j => decide (ks_C S f j = ks_C S g j))
theorem ks_same_iff {S : ks_T} {f g : Nat} : ks_same S f g = true ↔ ∀ j, j < 8 → ks_C S f j = ks_C S g j := by
  unfold ks_same
  rw [List.all_eq_true]
  exact ⟨fun h j hj => of_decide_eq_true (h j (List.mem_range.mpr hj)), fun h j hj => decide_eq_true (h j (List.mem_range.mp hj))⟩
theorem ks_same_t {S : ks_T} {f g : Nat} (h : ∀ j, j < 8 → ks_C S f j = ks_C S g j) : ks_same S f g = true := ks_same_iff.mpr h
theorem ks_same_f {S : ks_T} {f g j : Nat} (hj : j < 8) (h : ¬ ks_C S f j = ks_C S g j) : ks_same S f g = false := by
  cases hb : ks_same S f g
  · rfl
  · exact absurd (ks_same_iff.mp hb j hj) h
