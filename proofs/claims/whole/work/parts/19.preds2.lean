/-! which numbers are pages, windows, cells, counts -/
def ks_page (S : ks_T) (x y : Int32) : Bool := ks_row S x && (decide (¬ y < 0) && decide (y < nI (ks_P S x.toNatClampNeg - 1)))
def ks_pages (S : ks_T) (x y n : Int32) : Bool := ks_row S x && (decide (¬ y < 0) && (decide (¬ n < 0) && decide (y ≤ nI (ks_P S x.toNatClampNeg - 1) - n)))
def ks_cell (x : Int32) : Bool := decide (¬ x < 0) && decide (x < nI 8)
def ks_cnt (x : Int32) : Bool := decide (¬ x < 0) && decide (x ≤ nI 32)
theorem ks_page_no {S : ks_T} {x y : Int32} (h : ks_row S x = false) : ks_page S x y = false := by
  unfold ks_page
  rw [h]
  rfl
theorem ks_page_at {S : ks_T} {j : Nat} {y : Int32} (hj : j < 40) (h : ks_P S j ≠ 0) : ks_page S (nI j) y = (decide (¬ y < 0) && decide (y < nI (ks_P S j - 1))) := by
  unfold ks_page
  rw [ks_row_at hj, decide_eq_true h, nI_clamp (by omega)]
  rfl
theorem ks_page_ex {S : ks_T} {x y : Int32} (hP : ∀ r, r < 40 → ks_P S r ≤ 33) (h : ks_page S x y = true) : ∃ j k, j < 40 ∧ x = nI j ∧ y = nI k ∧ k + 1 < ks_P S j ∧ k < 32 := by
  cases hr : ks_row S x
  · rw [ks_page_no hr] at h
    cases h
  · obtain ⟨j, hj, rfl, h0⟩ := ks_row_ex hr
    rw [ks_page_at hj h0, Bool.and_eq_true] at h
    obtain ⟨k, hk, rfl⟩ := nI_of (of_decide_eq_true h.1)
    have h2 := (nI_ltI hk (by have := hP j hj; omega)).mp (of_decide_eq_true h.2)
    have := hP j hj
    exact ⟨j, k, hj, rfl, rfl, by omega, by omega⟩
theorem ks_pages_no {S : ks_T} {x y n : Int32} (h : ks_row S x = false) : ks_pages S x y n = false := by
  unfold ks_pages
  rw [h]
  rfl
theorem ks_pages_at {S : ks_T} {j : Nat} {y n : Int32} (hj : j < 40) (h : ks_P S j ≠ 0) : ks_pages S (nI j) y n = (decide (¬ y < 0) && (decide (¬ n < 0) && decide (y ≤ nI (ks_P S j - 1) - n))) := by
  unfold ks_pages
  rw [ks_row_at hj, decide_eq_true h, nI_clamp (by omega)]
  rfl
theorem ks_pages_ex {S : ks_T} {x y n : Int32} (hP : ∀ r, r < 40 → ks_P S r ≤ 33) (h : ks_pages S x y n = true) : ∃ j a b, j < 40 ∧ x = nI j ∧ y = nI a ∧ n = nI b ∧ ks_P S j ≠ 0 ∧ a + b + 1 ≤ ks_P S j ∧ a + b ≤ 32 := by
  cases hr : ks_row S x
  · rw [ks_pages_no hr] at h
    cases h
  · obtain ⟨j, hj, rfl, h0⟩ := ks_row_ex hr
    rw [ks_pages_at hj h0, Bool.and_eq_true, Bool.and_eq_true] at h
    obtain ⟨a, ha, rfl⟩ := nI_of (of_decide_eq_true h.1)
    obtain ⟨b, hb, rfl⟩ := nI_of (of_decide_eq_true h.2.1)
    have h2 := of_decide_eq_true h.2.2
    have hp := hP j hj
    by_cases hle : b ≤ ks_P S j - 1
    · rw [pk_sub hle] at h2
      have h3 := (nI_leI ha (by omega)).mp h2
      exact ⟨j, a, b, hj, rfl, rfl, rfl, h0, by omega, by omega⟩
    · exfalso
      have e : (nI (ks_P S j - 1) - nI b).toInt = ((ks_P S j - 1 : Nat) : Int) - (b : Int) := by
        rw [Int32.toInt_sub, nI_toInt (by omega), nI_toInt hb]
        exact Int.bmod_eq_of_le (by omega) (by omega)
      rw [Int32.le_iff_toInt_le, nI_toInt ha, e] at h2
      omega
theorem ks_cell_ex {x : Int32} (h : ks_cell x = true) : ∃ k, k < 8 ∧ x = nI k := by
  unfold ks_cell at h
  rw [Bool.and_eq_true] at h
  obtain ⟨k, hk, rfl⟩ := nI_of (of_decide_eq_true h.1)
  exact ⟨k, (nI_ltI hk (by omega)).mp (of_decide_eq_true h.2), rfl⟩
theorem ks_cnt_ex {x : Int32} (h : ks_cnt x = true) : ∃ k, k ≤ 32 ∧ x = nI k := by
  unfold ks_cnt at h
  rw [Bool.and_eq_true] at h
  obtain ⟨k, hk, rfl⟩ := nI_of (of_decide_eq_true h.1)
  exact ⟨k, (nI_leI hk (by omega)).mp (of_decide_eq_true h.2), rfl⟩
