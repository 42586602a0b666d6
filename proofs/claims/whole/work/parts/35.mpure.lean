/-! the reference's changes of frames, sweeps and merges, as functions of its state -/
abbrev mh_q (M : ms_T) (g x : Nat) : Prop := ms_B M (x / 32) ≠ 0 ∧ x % 32 < ms_P M (x / 32) ∧ ms_F M x = g
def mh_f (M : ms_T) (g h k : Nat) : Nat → Nat := fun x => if x < k ∧ mh_q M g x then h else ms_F M x
def ms_mh (M : ms_T) (g h : Nat) : ms_T := ms_uF M (mh_f M g h 1280)
theorem mh_0 (M : ms_T) (g h : Nat) : mh_f M g h 0 = ms_F M := by
  funext x
  exact if_neg (fun w => by omega)
theorem mh_at (M : ms_T) (g h k : Nat) : mh_f M g h k k = ms_F M k := if_neg (fun w => by omega)
theorem mh_row {M : ms_T} {g h a b : Nat} (hab : a ≤ b) (e : ∀ x, a ≤ x → x < b → ¬ mh_q M g x) : mh_f M g h a = mh_f M g h b := by
  funext x
  unfold mh_f
  by_cases h1 : mh_q M g x
  · by_cases h2 : x < a
    · rw [if_pos ⟨h2, h1⟩, if_pos ⟨by omega, h1⟩]
    · by_cases h3 : x < b
      · exact absurd h1 (e x (by omega) h3)
      · rw [if_neg (fun w => h2 w.1), if_neg (fun w => h3 w.1)]
  · rw [if_neg (fun w => h1 w.2), if_neg (fun w => h1 w.2)]
theorem mh_st {M : ms_T} {g h k : Nat} (hq : mh_q M g k) : ks_uN (mh_f M g h k) k h = mh_f M g h (k + 1) := by
  funext x
  unfold ks_uN
  by_cases h1 : x = k
  · rw [if_pos h1]
    unfold mh_f
    rw [if_pos ⟨by omega, by rw [h1]; exact hq⟩]
  · rw [if_neg h1]
    unfold mh_f
    by_cases h2 : x < k ∧ mh_q M g x
    · rw [if_pos h2, if_pos ⟨by omega, h2.2⟩]
    · rw [if_neg h2, if_neg (fun w => h2 ⟨by omega, w.2⟩)]
theorem mh_dm {r i : Nat} (h : i < 32) : (32 * r + i) / 32 = r ∧ (32 * r + i) % 32 = i := by omega
theorem mv_mh {M : ms_T} {g h : Nat} (hO : mv_ok M) (hh : h ≤ 200) : mv_ok (ms_mh M g h) := by
  refine ⟨hO.1, hO.2.1, fun i hi => ?_⟩
  show mh_f M g h 1280 i ≤ 200
  unfold mh_f
  split
  · exact hh
  · exact hO.2.2 i hi
def ms_z (M : ms_T) (f : Nat) : Bool := (List.range 8).all (fun j => decide (ms_C M (8 * f + j) = 0))
theorem ms_z_iff {M : ms_T} {f : Nat} : ms_z M f = true ↔ ∀ j, j < 8 → ms_C M (8 * f + j) = 0 := by
  unfold ms_z
  rw [List.all_eq_true]
  exact ⟨fun h j hj => of_decide_eq_true (h j (List.mem_range.mpr hj)), fun h j hj => decide_eq_true (h j (List.mem_range.mp hj))⟩
def sw_c (T : ms_T × Nat) (f : Nat) : ms_T × Nat := if cn_f (mv_F T.1) (f + 1) ≠ 0 ∧ ms_z T.1 f = true then (ms_mh T.1 (f + 1) 0, T.2 + 1) else T
def sw_m (M : ms_T) : Nat → ms_T × Nat
  | 0 => (M, 0)
  | f + 1 => sw_c (sw_m M f) f
theorem sw_ok {M : ms_T} (hO : mv_ok M) : ∀ n, mv_ok (sw_m M n).1
  | 0 => hO
  | n + 1 => by
    have h := sw_ok hO n
    show mv_ok (sw_c (sw_m M n) n).1
    unfold sw_c
    split
    · exact mv_mh h (by omega)
    · exact h
theorem sw_t {T : ms_T × Nat} {f : Nat} (h1 : cn_f (mv_F T.1) (f + 1) ≠ 0) (h2 : ms_z T.1 f = true) : sw_c T f = (ms_mh T.1 (f + 1) 0, T.2 + 1) := if_pos ⟨h1, h2⟩
theorem sw_n1 {T : ms_T × Nat} {f : Nat} (h1 : cn_f (mv_F T.1) (f + 1) = 0) : sw_c T f = T := if_neg (fun w => w.1 h1)
theorem sw_n2 {T : ms_T × Nat} {f : Nat} (h2 : ms_z T.1 f = false) : sw_c T f = T := if_neg (fun w => by rw [h2] at w; exact absurd w.2 (by decide))
def mg_c (f : Nat) (T : ms_T × Nat) (g : Nat) : ms_T × Nat := if 0 < cn_f (mv_F T.1) (f + 1) ∧ cn_f (mv_F T.1) (g + 1) ≠ 0 ∧ ms_same T.1 f g = true then (ms_mh T.1 (f + 1) (g + 1), T.2 + 1) else T
def mg_i (f : Nat) (T : ms_T × Nat) : Nat → ms_T × Nat
  | 0 => T
  | g + 1 => mg_c f (mg_i f T g) g
def mg_m (M : ms_T) : Nat → ms_T × Nat
  | 0 => (M, 0)
  | f + 1 => mg_i f (mg_m M f) f
theorem mg_t {f : Nat} {T : ms_T × Nat} {g : Nat} (h1 : 0 < cn_f (mv_F T.1) (f + 1)) (h2 : cn_f (mv_F T.1) (g + 1) ≠ 0) (h3 : ms_same T.1 f g = true) : mg_c f T g = (ms_mh T.1 (f + 1) (g + 1), T.2 + 1) := if_pos ⟨h1, h2, h3⟩
theorem mg_n1 {f : Nat} {T : ms_T × Nat} {g : Nat} (h1 : cn_f (mv_F T.1) (f + 1) = 0) : mg_c f T g = T := if_neg (fun w => by omega)
theorem mg_n2 {f : Nat} {T : ms_T × Nat} {g : Nat} (h1 : cn_f (mv_F T.1) (g + 1) = 0) : mg_c f T g = T := if_neg (fun w => w.2.1 h1)
theorem mg_n3 {f : Nat} {T : ms_T × Nat} {g : Nat} (h1 : ms_same T.1 f g = false) : mg_c f T g = T := if_neg (fun w => by rw [h1] at w; exact absurd w.2.2 (by decide))
theorem mg_stop {f : Nat} {T : ms_T × Nat} {i : Nat} (h : cn_f (mv_F (mg_i f T i).1) (f + 1) = 0) : ∀ n, mg_i f T (i + n) = mg_i f T i
  | 0 => rfl
  | n + 1 => by
    show mg_c f (mg_i f T (i + n)) (i + n) = _
    rw [mg_stop h n]
    exact mg_n1 h
theorem mgi_ok {f : Nat} {T : ms_T × Nat} (hO : mv_ok T.1) : ∀ n, n ≤ 200 → mv_ok (mg_i f T n).1
  | 0, _ => hO
  | n + 1, hn => by
    have h := mgi_ok (f := f) hO n (by omega)
    show mv_ok (mg_c f (mg_i f T n) n).1
    unfold mg_c
    split
    · exact mv_mh h (by omega)
    · exact h
theorem mgm_ok {M : ms_T} (hO : mv_ok M) : ∀ n, n ≤ 200 → mv_ok (mg_m M n).1
  | 0, _ => hO
  | n + 1, hn => mgi_ok (mgm_ok hO n (by omega)) n (by omega)
def mo_n (M : ms_T) (j g : Nat) : Nat := ct_b (fun p => decide (ms_F M (32 * j + p) = g)) (ms_P M j)
theorem mo_nb {M : ms_T} {j g : Nat} (hO : mv_ok M) (hj : j < 40) : mo_n M j g ≤ 32 := by
  have h1 := ct_b_le (fun p => decide (ms_F M (32 * j + p) = g)) (ms_P M j)
  have h2 := hO.2.1 j hj
  unfold mo_n
  omega
theorem an_0 (b : Int32) (h : b = nI 1 ∨ b = nI 0) : b &&& nI 0 = nI 0 := by
  rcases h with rfl | rfl <;> decide +kernel
theorem an_1 (b : Int32) (h : b = nI 1 ∨ b = nI 0) : b &&& nI 1 = b := by
  rcases h with rfl | rfl <;> decide +kernel
