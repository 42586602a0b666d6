/-! lay's loops, switches, what iterations keep -/
def ly_S (S : ks_T) (F : Nat → Nat → Nat) (h : Nat → Nat) (o : Nat → Int32) : ks_T := (ks_P S, F, ks_C S, h, o, ks_O S, ks_K S)
theorem pd_mono (car : Nat → Nat) (f : Nat) : ∀ {i b : Nat}, i ≤ b → pd_f car i f ≤ pd_f car b f
  | i, 0, h => by
    rw [show i = 0 by omega]
    exact Nat.le_refl _
  | i, b + 1, h => by
    by_cases e : i = b + 1
    · rw [e]
      exact Nat.le_refl _
    · have h1 := pd_mono car f (i := i) (b := b) (by omega)
      rw [pd_s]
      omega
theorem pd_pos {car : Nat → Nat} {n f : Nat} (h : 0 < pd_f car n f) : ∃ i, i < n ∧ car i = f := by
  obtain ⟨i, hi, hq⟩ := ct_b_pos.mp h
  exact ⟨i, hi, of_decide_eq_true hq⟩
theorem ly_nz {H H' : Nat → Nat} {car : Nat → Nat} {b : Nat} (h1 : ∀ f, f ≠ 0 → H' f = H f + pd_f car b f) (h2 : ∀ i, i < b → car i ≠ 0 → 0 < H (car i)) : nz_f H' = nz_f H := by
  refine nz_congr (fun f hf _ => ?_)
  rw [h1 f (by omega)]
  constructor
  · intro h
    by_cases h0 : 0 < H f
    · exact h0
    · obtain ⟨i, hi, e⟩ := pd_pos (show 0 < pd_f car b f by omega)
      rw [← e]
      exact h2 i hi (by omega)
  · intro h
    omega
theorem ly_step {F : Nat → Nat → Nat} {car : Nat → Nat} {H' : Nat → Nat} {j a i b : Nat} (hj : j < 40) (ha : a + i < 32) (hi : i < b) (h : ∀ f, f ≠ 0 → f ≤ 200 → H' f + pd_f car i f = cn_f (ly_F F car j a i) f + pd_f car b f) :
    ∀ f, f ≠ 0 → f ≤ 200 → kp_l H' (F j (a + i)) f + pd_f car (i + 1) f = cn_f (ly_F F car j a (i + 1)) f + pd_f car b f := by
  intro f h0 hf
  have e1 := cn_f_up (F := ly_F F car j a i) (g := car i) (f := f) hj ha
  rw [← ly_s, ly_at] at e1
  have e2 := h f h0 hf
  have e3 := pd_mono car f (i := i) (b := b) (by omega)
  rw [kp_l_at _ _ _ h0, pd_s]
  by_cases q1 : F j (a + i) = f
  · have q2 : 0 < cn_f (ly_F F car j a i) f := cn_f_pos.mpr ⟨j, a + i, hj, ha, by rw [ly_at]; exact q1⟩
    rw [if_pos q1] at e1 ⊢
    by_cases q3 : car i = f
    · rw [if_pos q3] at e1 ⊢
      omega
    · rw [if_neg q3] at e1 ⊢
      omega
  · rw [if_neg q1] at e1 ⊢
    by_cases q3 : car i = f
    · rw [if_pos q3] at e1 ⊢
      omega
    · rw [if_neg q3] at e1 ⊢
      omega
theorem ly_1 {F : Nat → Nat → Nat} {car : Nat → Nat} {H' : Nat → Nat} {j a i b : Nat} (hj : j < 40) (ha : a + i < 32) (hi : i < b) (hF : F j (a + i) < 201) (h : ∀ f, f ≠ 0 → f ≤ 200 → H' f + pd_f car i f = cn_f (ly_F F car j a i) f + pd_f car b f) (h0 : F j (a + i) ≠ 0) : 1 ≤ H' (F j (a + i)) := by
  have e2 := h _ h0 (by omega)
  have e3 := pd_mono car (F j (a + i)) (i := i) (b := b) (by omega)
  have q2 : 0 < cn_f (ly_F F car j a i) (F j (a + i)) := cn_f_pos.mpr ⟨j, a + i, hj, ha, ly_at _ _ _ _ _⟩
  omega
theorem ly_2 {F : Nat → Nat → Nat} {car : Nat → Nat} {H' : Nat → Nat} {j a i b : Nat} (hb : b ≤ 32) (h : ∀ f, f ≠ 0 → f ≤ 200 → H' f + pd_f car i f = cn_f (ly_F F car j a i) f + pd_f car b f) (hz : H' 0 = 0) {f : Nat} (hf : f < 201) : H' f < 2 ^ 31 := by
  by_cases h0 : f = 0
  · rw [h0, hz]
    omega
  · have e2 := h f h0 (by omega)
    have e3 := cn_f_le (ly_F F car j a i) f
    have e4 := pd_le car b f
    omega
theorem sw_n (x : Int32) {n : Nat} (hn : n < 2 ^ 31) : (∃ i, i < n ∧ x = nI i) ∨ x.toInt < 0 ∨ (n : Int) ≤ x.toInt := by
  rcases pk_ix x hn with h | h | ⟨j, hj, rfl⟩
  · right; left
    rw [Int32.lt_iff_toInt_lt, Int32.toInt_zero] at h
    exact h
  · right; right
    rw [Int32.le_iff_toInt_le, nI_toInt hn] at h
    exact h
  · exact Or.inl ⟨j, hj, rfl⟩
theorem ks_fw_le {S : ks_T} {f : Nat} (h : 1 ≤ f) : ks_fw S f ≤ f := by
  unfold ks_fw
  have := ls_le (ks_q1 S f) (f - 1)
  omega
theorem ks_ke_lt {S : ks_T} (hV : kv_c S) {f : Nat} (h : f < 201) : ks_ke S f < 201 := by
  unfold ks_ke
  by_cases h0 : ks_H S f = 0
  · rw [if_pos h0]
    exact h
  · rw [if_neg h0]
    have h1 : f ≠ 0 := fun e => h0 (by rw [e]; exact hV.2.2)
    have := ks_fw_le (S := S) (f := f) (by omega)
    omega
theorem swp_I {S : ks_T} {T : ks_T} {r p : Nat} (hr : r < 40) (hp : p < 32) (h : kv_c T ∧ ks_P T = ks_P S ∧ ks_C T = ks_C S) : kv_c (ks_swp T r p).1 ∧ ks_P (ks_swp T r p).1 = ks_P S ∧ ks_C (ks_swp T r p).1 = ks_C S := by
  unfold ks_swp
  split
  · exact ⟨kv_pt h.1 hr hp (by omega), h.2⟩
  · exact h
theorem mrg_I {S T : ks_T} {o : Nat → Int32} {ke : Nat → Nat} (hke : ∀ f, f < 201 → ke f < 201) {r p : Nat} (hr : r < 40) (hp : p < 32) (h : kv_c T ∧ ks_P T = ks_P S ∧ ks_K T = o) : kv_c (ks_mrg ke T r p).1 ∧ ks_P (ks_mrg ke T r p).1 = ks_P S ∧ ks_K (ks_mrg ke T r p).1 = o :=
  ⟨kv_pt h.1 hr hp (hke _ (h.1.1 r p hr hp)), h.2⟩
theorem swp_f {T : ks_T} {r p : Nat} (h : ks_same T (ks_F T r p) 0 = false) : ks_swp T r p = (T, 0) := by
  unfold ks_swp
  rw [h]
  rfl
theorem swp_t {T : ks_T} {r p : Nat} (h : ks_same T (ks_F T r p) 0 = true) : ks_swp T r p = (ks_pt T r p 0, kp_w (ks_H T) (ks_F T r p)) := by
  unfold ks_swp
  rw [h]
  rfl
