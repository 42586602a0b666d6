/-! what the reference's state says: pages of a row plus one, the frame of a page (0: none or not there) -/
def mv_P (M : ms_T) (r : Nat) : Nat := if ms_B M r = 0 then 0 else ms_P M r + 1
def mv_F (M : ms_T) (r p : Nat) : Nat := if p + 1 < mv_P M r then ms_F M (32 * r + p) else 0
def mv_ok (M : ms_T) : Prop := (∀ r, r < 40 → ms_B M r ≤ 1) ∧ (∀ r, r < 40 → ms_P M r ≤ 32) ∧ ∀ i, i < 1280 → ms_F M i ≤ 200
theorem mv_P0 {M : ms_T} {r : Nat} (h : ms_B M r = 0) : mv_P M r = 0 := if_pos h
theorem mv_P1 {M : ms_T} {r : Nat} (h : ms_B M r ≠ 0) : mv_P M r = ms_P M r + 1 := if_neg h
theorem mv_F1 {M : ms_T} {r p : Nat} (h : ms_B M r ≠ 0) (hp : p < ms_P M r) : mv_F M r p = ms_F M (32 * r + p) := by
  unfold mv_F
  rw [mv_P1 h, if_pos (by omega)]
theorem mv_F2 {M : ms_T} {r p : Nat} (hp : ms_B M r ≠ 0 → ms_P M r ≤ p) : mv_F M r p = 0 := by
  unfold mv_F
  by_cases h : ms_B M r = 0
  · rw [mv_P0 h, if_neg (by omega)]
  · have := hp h
    rw [mv_P1 h, if_neg (by omega)]
theorem ct_b_ext {q : Nat → Bool} {k : Nat} : ∀ {n : Nat}, k ≤ n → (∀ i, k ≤ i → i < n → q i = false) → ct_b q n = ct_b q k
  | 0, h, _ => by rw [show k = 0 by omega]
  | n + 1, h, e => by
    by_cases h1 : k = n + 1
    · rw [h1]
    · rw [ct_b_f (e n (by omega) (by omega))]
      exact ct_b_ext (by omega) (fun i h2 h3 => e i h2 (by omega))
theorem mv_r1 {M : ms_T} {r g : Nat} (h : ms_B M r ≠ 0) (hP : ms_P M r ≤ 32) (hg : g ≠ 0) : cn_r (mv_F M r) g = ct_b (fun p => decide (mv_F M r p = g)) (ms_P M r) :=
  ct_b_ext hP (fun i h1 h2 => decide_eq_false (fun e => hg (by rw [← e]; exact mv_F2 (fun _ => h1))))
theorem mv_r0 {M : ms_T} {r g : Nat} (h : ms_B M r = 0) (hg : g ≠ 0) : cn_r (mv_F M r) g = 0 :=
  ct_b_ext (k := 0) (by omega) (fun i h1 h2 => decide_eq_false (fun e => hg (by rw [← e]; exact mv_F2 (fun w => absurd h w))))
theorem ks_e_eq {x y : Nat} (hx : x ≤ 1000) (hy : y ≤ 1000) : ks_e x = ks_e y ↔ x = y := by
  unfold ks_e
  by_cases h1 : x = 0
  · by_cases h2 : y = 0
    · rw [if_pos h1, if_pos h2, h1, h2]
      exact ⟨fun _ => rfl, fun _ => rfl⟩
    · rw [if_pos h1, if_neg h2]
      constructor
      · intro e
        exact absurd (congrArg Int32.toInt e) (by rw [nI_toInt (by omega)]; have : (-1 : Int32).toInt = -1 := by decide
                                                  rw [this]; omega)
      · intro e
        omega
  · by_cases h2 : y = 0
    · rw [if_neg h1, if_pos h2]
      constructor
      · intro e
        exact absurd (congrArg Int32.toInt e) (by rw [nI_toInt (by omega)]; have : (-1 : Int32).toInt = -1 := by decide
                                                  rw [this]; omega)
      · intro e
        omega
    · rw [if_neg h1, if_neg h2, nI_eq (by omega) (by omega)]
      omega
theorem ks_eN {x : Nat} (hx : x ≤ 1000) : ks_e x = -1 ↔ x = 0 := ks_e_eq (y := 0) hx (by omega)
theorem ks_e1 (x : Nat) : ks_e (x + 1) = nI x := by
  rw [ks_es (by omega)]
  rfl
theorem cn_f_b {F : Nat → Nat → Nat} {f : Nat} : cn_f F f < 2 ^ 31 := by
  have := cn_f_le F f
  omega
/-- a stretch of an array, laid over -/
def mf_w {α : Type} (F : Nat → α) (b : Nat) (g : Nat → α) (n : Nat) : Nat → α := fun x => if b ≤ x ∧ x < b + n then g (x - b) else F x
theorem mf_0 {α : Type} (F : Nat → α) (b : Nat) (g : Nat → α) : mf_w F b g 0 = F := by
  funext x
  exact if_neg (by omega)
theorem mf_in {α : Type} (F : Nat → α) {b : Nat} (g : Nat → α) {n i : Nat} (h : i < n) : mf_w F b g n (b + i) = g i := by
  unfold mf_w
  rw [if_pos (by omega), Nat.add_sub_cancel_left]
theorem mf_out {α : Type} (F : Nat → α) {b : Nat} (g : Nat → α) {n x : Nat} (h : x < b ∨ b + n ≤ x) : mf_w F b g n x = F x := if_neg (by omega)
theorem mf_s (F : Nat → Nat) (b : Nat) (g : Nat → Nat) (n : Nat) : mf_w F b g (n + 1) = ks_uN (mf_w F b g n) (b + n) (g n) := by
  funext x
  unfold mf_w ks_uN
  by_cases h : x = b + n
  · rw [if_pos h, if_pos (by omega), h, Nat.add_sub_cancel_left]
  · rw [if_neg h]
    show _ = (if b ≤ x ∧ x < b + n then g (x - b) else F x)
    by_cases h2 : b ≤ x ∧ x < b + n
    · rw [if_pos h2, if_pos (by omega)]
    · rw [if_neg h2, if_neg (by omega)]
theorem mf_c (F : Nat → Int32) (b : Nat) (g : Nat → Int32) (n : Nat) : mf_w F b g (n + 1) = upd (mf_w F b g n) (b + n) (g n) := by
  funext x
  unfold mf_w upd
  by_cases h : x = b + n
  · rw [if_pos h, if_pos (by omega), h, Nat.add_sub_cancel_left]
  · rw [if_neg h]
    show _ = (if b ≤ x ∧ x < b + n then g (x - b) else F x)
    by_cases h2 : b ≤ x ∧ x < b + n
    · rw [if_pos h2, if_pos (by omega)]
    · rw [if_neg h2, if_neg (by omega)]
def ms_uF (M : ms_T) (F : Nat → Nat) : ms_T := (ms_t M, ms_B M, ms_P M, F, ms_C M, ms_K M)
def ms_uC (M : ms_T) (C : Nat → Int32) : ms_T := (ms_t M, ms_B M, ms_P M, ms_F M, C, ms_K M)
def ms_uK (M : ms_T) (K : Nat → Int32) : ms_T := (ms_t M, ms_B M, ms_P M, ms_F M, ms_C M, K)
/-- the row that a number names, in the reference -/
def mo_row (M : ms_T) (x : Int32) (j : Nat) : Prop := j < 40 ∧ x = nI j ∧ ms_B M j ≠ 0
def mo_pg (M : ms_T) (x y : Int32) (j a : Nat) : Prop := mo_row M x j ∧ y = nI a ∧ a < ms_P M j
