/-! share and lay: what their loops make -/
/-- the pages 0 .. n-1 of the row r are pointed to the frames of the pages a .. of the row j -/
def ks_sh (T : ks_T) (r j a : Nat) : Nat → ks_T
  | 0 => T
  | n + 1 => ks_pt (ks_sh T r j a n) r n (ks_F (ks_sh T r j a n) j (a + n))
theorem kv_sh {T : ks_T} (h : kv_c T) {r j a : Nat} (hr : r < 40) (hj : j < 40) : ∀ n, a + n ≤ 32 → kv_c (ks_sh T r j a n)
  | 0, _ => h
  | n + 1, hn => by
    have h1 := kv_sh (a := a) h hr hj n (by omega)
    exact kv_pt (p := n) h1 hr (by omega) (h1.1 j (a + n) hj (by omega))
/-- how many of the first n hold f -/
def pd_f (car : Nat → Nat) (n f : Nat) : Nat := ct_b (fun i => decide (car i = f)) n
theorem pd_s (car : Nat → Nat) (n f : Nat) : pd_f car (n + 1) f = pd_f car n f + (if car n = f then 1 else 0) := by
  by_cases h : car n = f
  · rw [if_pos h]
    exact ct_b_t (decide_eq_true h)
  · rw [if_neg h]
    exact ct_b_f (decide_eq_false h)
theorem pd_le (car : Nat → Nat) (n f : Nat) : pd_f car n f ≤ n := ct_b_le _ _
/-- the row j, its pages a .. a+n-1 now those of car -/
def ly_F (F : Nat → Nat → Nat) (car : Nat → Nat) (j a n : Nat) : Nat → Nat → Nat := fun x y => if x = j ∧ a ≤ y ∧ y < a + n then car (y - a) else F x y
theorem ly_0 (F : Nat → Nat → Nat) (car : Nat → Nat) (j a : Nat) : ly_F F car j a 0 = F := by
  funext x y
  exact if_neg (by omega)
theorem ly_s (F : Nat → Nat → Nat) (car : Nat → Nat) (j a n : Nat) : ly_F F car j a (n + 1) = cn_u (ly_F F car j a n) j (a + n) (car n) := by
  funext x y
  by_cases h : x = j ∧ y = a + n
  · rw [h.1, h.2, cn_u_s]
    show (if j = j ∧ a ≤ a + n ∧ a + n < a + (n + 1) then car (a + n - a) else F j (a + n)) = car n
    rw [if_pos ⟨rfl, by omega, by omega⟩]
    congr 1
    omega
  · rw [cn_u_n h]
    unfold ly_F
    by_cases h2 : x = j ∧ a ≤ y ∧ y < a + n
    · rw [if_pos h2, if_pos ⟨h2.1, h2.2.1, by omega⟩]
    · rw [if_neg h2, if_neg (by omega)]
theorem ly_at (F : Nat → Nat → Nat) (car : Nat → Nat) (j a n : Nat) : ly_F F car j a n j (a + n) = F j (a + n) := if_neg (by omega)
theorem ly_lt {F : Nat → Nat → Nat} {car : Nat → Nat} {j a n : Nat} (h : ∀ r p, r < 40 → p < 32 → F r p < 201) (hc : ∀ i, i < n → car i < 201) : ∀ r p, r < 40 → p < 32 → ly_F F car j a n r p < 201 := by
  intro r p hr hp
  unfold ly_F
  by_cases h2 : r = j ∧ a ≤ p ∧ p < a + n
  · rw [if_pos h2]
    exact hc _ (by omega)
  · rw [if_neg h2]
    exact h r p hr hp
