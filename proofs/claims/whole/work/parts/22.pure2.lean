/-! the holders are the pages that hold; pointing keeps that; iterations over pages -/
theorem ct_b_t {q : Nat → Bool} {i : Nat} (h : q i = true) : ct_b q (i + 1) = ct_b q i + 1 := by
  show ct_b q i + (if q i = true then 1 else 0) = _
  rw [if_pos h]
theorem ct_b_f {q : Nat → Bool} {i : Nat} (h : q i = false) : ct_b q (i + 1) = ct_b q i := by
  show ct_b q i + (if q i = true then 1 else 0) = _
  rw [h]
  rfl
def kv_c (S : ks_T) : Prop := (∀ r p, r < 40 → p < 32 → ks_F S r p < 201) ∧ (∀ f, f ≠ 0 → f ≤ 200 → ks_H S f = cn_f (ks_F S) f) ∧ ks_H S 0 = 0
theorem kv_le {S : ks_T} (h : kv_c S) {f : Nat} (hf : f < 201) : ks_H S f < 2 ^ 31 := by
  by_cases h0 : f = 0
  · rw [h0, h.2.2]
    omega
  · rw [h.2.1 f h0 (by omega)]
    have := cn_f_le (ks_F S) f
    omega
theorem kv_1 {S : ks_T} (h : kv_c S) {r p : Nat} (hr : r < 40) (hp : p < 32) (h0 : ks_F S r p ≠ 0) : 1 ≤ ks_H S (ks_F S r p) := by
  rw [h.2.1 _ h0 (by have := h.1 r p hr hp; omega)]
  exact cn_f_pos.mpr ⟨r, p, hr, hp, rfl⟩
theorem kv_h1 {S : ks_T} (h : kv_c S) {r p : Nat} (g : Nat) (hr : r < 40) (hp : p < 32) (h0 : ks_F S r p ≠ 0) : 1 ≤ kp_h (ks_H S) g (ks_F S r p) := by
  rw [kp_h_at _ _ _ h0]
  have := kv_1 h hr hp h0
  omega
theorem kv_h2 {S : ks_T} (h : kv_c S) {r p : Nat} (g : Nat) (hr : r < 40) (hp : p < 32) : kp_h (ks_H S) g (ks_F S r p) < 2 ^ 31 := by
  by_cases h0 : ks_F S r p = 0
  · rw [h0, kp_h_z, h.2.2]
    omega
  · rw [kp_h_at _ _ _ h0, h.2.1 _ h0 (by have := h.1 r p hr hp; omega)]
    have := cn_f_le (ks_F S) (ks_F S r p)
    split <;> omega
theorem kv_pt {S : ks_T} (h : kv_c S) {r p g : Nat} (hr : r < 40) (hp : p < 32) (hg : g < 201) : kv_c (ks_pt S r p g) := by
  refine ⟨fun a b ha hb => ?_, fun f h0 hf => ?_, ?_⟩
  · show cn_u (ks_F S) r p g a b < 201
    by_cases e : a = r ∧ b = p
    · rw [e.1, e.2, cn_u_s]
      exact hg
    · rw [cn_u_n e]
      exact h.1 a b ha hb
  · show kp_l (kp_h (ks_H S) g) (ks_F S r p) f = cn_f (cn_u (ks_F S) r p g) f
    have := kp_cn (F := ks_F S) (H := ks_H S) (D := fun _ => 0) (g := g) hr hp (fun f h0 hf => by rw [h.2.1 f h0 hf]; rfl) h0 hf
    exact this
  · show kp_l (kp_h (ks_H S) g) (ks_F S r p) 0 = 0
    rw [kp_l_z, kp_h_z]
    exact h.2.2
/-- the pages a, a+1, .. of the row r are made blank, n of them: the state, and how many frames went -/
def ks_bf (S : ks_T) (r a : Nat) : Nat → ks_T
  | 0 => S
  | n + 1 => ks_pt (ks_bf S r a n) r (a + n) 0
def kb_w (S : ks_T) (r a : Nat) : Nat → Nat
  | 0 => 0
  | n + 1 => kb_w S r a n + kp_w (ks_H (ks_bf S r a n)) (ks_F (ks_bf S r a n) r (a + n))
theorem ks_bf_P (S : ks_T) (r a : Nat) : ∀ n, ks_P (ks_bf S r a n) = ks_P S
  | 0 => rfl
  | n + 1 => ks_bf_P S r a n
theorem kv_bf {S : ks_T} (h : kv_c S) {r a : Nat} (hr : r < 40) : ∀ n, a + n ≤ 32 → kv_c (ks_bf S r a n)
  | 0, _ => h
  | n + 1, hn => kv_pt (kv_bf h hr n (by omega)) hr (by omega) (by omega)
/-- a step at every page there is of a row, of all rows -/
def it_r (st : ks_T → Nat → Nat → ks_T × Nat) (S : ks_T) (r : Nat) : Nat → ks_T × Nat
  | 0 => (S, 0)
  | n + 1 => ((st (it_r st S r n).1 r n).1, (it_r st S r n).2 + (st (it_r st S r n).1 r n).2)
def it_a (st : ks_T → Nat → Nat → ks_T × Nat) (S : ks_T) : Nat → ks_T × Nat
  | 0 => (S, 0)
  | n + 1 => ((it_r st (it_a st S n).1 n (ks_P S n - 1)).1, (it_a st S n).2 + (it_r st (it_a st S n).1 n (ks_P S n - 1)).2)
theorem it_r_I {st : ks_T → Nat → Nat → ks_T × Nat} {S : ks_T} {r : Nat} (I : ks_T → Prop) (h0 : I S) (hs : ∀ T p, p < 32 → I T → I (st T r p).1) : ∀ n, n ≤ 32 → I (it_r st S r n).1
  | 0, _ => h0
  | n + 1, hn => hs _ n (by omega) (it_r_I I h0 hs n (by omega))
theorem it_a_I {st : ks_T → Nat → Nat → ks_T × Nat} {S : ks_T} (I : ks_T → Prop) (hP : ∀ r, r < 40 → ks_P S r ≤ 33) (h0 : I S) (hs : ∀ T r p, r < 40 → p < 32 → I T → I (st T r p).1) : ∀ n, n ≤ 40 → I (it_a st S n).1
  | 0, _ => h0
  | n + 1, hn => it_r_I I (it_a_I I hP h0 hs n (by omega)) (fun T p hp hT => hs T n p (by omega) hp hT) _ (by have := hP n (by omega); omega)
def ks_swp (S : ks_T) (r p : Nat) : ks_T × Nat := if ks_same S (ks_F S r p) 0 = true then (ks_pt S r p 0, kp_w (ks_H S) (ks_F S r p)) else (S, 0)
def ks_mrg (ke : Nat → Nat) (S : ks_T) (r p : Nat) : ks_T × Nat := (ks_pt S r p (ke (ks_F S r p)), kp_w (kp_h (ks_H S) (ke (ks_F S r p))) (ks_F S r p))
/-- a frame's cells are copied onto another's -/
def ks_cp (S : ks_T) (f g : Nat) : ks_T := (ks_P S, ks_F S, fun i j => if i = g ∧ j < 8 then ks_C S f j else ks_C S i j, ks_H S, ks_A S, ks_O S, ks_K S)
def ks_uO (S : ks_T) (o : Nat → Int32) : ks_T := (ks_P S, ks_F S, ks_C S, ks_H S, ks_A S, o, ks_K S)
def ks_uK (S : ks_T) (o : Nat → Int32) : ks_T := (ks_P S, ks_F S, ks_C S, ks_H S, ks_A S, ks_O S, o)
def ks_uA (S : ks_T) (o : Nat → Int32) : ks_T := (ks_P S, ks_F S, ks_C S, ks_H S, o, ks_O S, ks_K S)
/-- the first frame held that has the cells of f -/
def ks_q1 (S : ks_T) (f i : Nat) : Bool := decide (0 < ks_H S (i + 1)) && ks_same S (i + 1) f
def ks_fw (S : ks_T) (f : Nat) : Nat := 1 + ls_b (ks_q1 S f) (f - 1)
def ks_ke (S : ks_T) (f : Nat) : Nat := if ks_H S f = 0 then f else ks_fw S f
/-- the page is the first of its row with its frame -/
def ks_fst (S : ks_T) (r p : Nat) : Bool := (List.range p).all (fun j => decide (ks_F S r j ≠ ks_F S r p))
theorem ks_fst_t {S : ks_T} {r p : Nat} (h : ∀ j, j < p → ks_F S r j ≠ ks_F S r p) : ks_fst S r p = true := by
  unfold ks_fst
  rw [List.all_eq_true]
  exact fun j hj => decide_eq_true (h j (List.mem_range.mp hj))
theorem ks_fst_f {S : ks_T} {r p j : Nat} (hj : j < p) (h : ks_F S r j = ks_F S r p) : ks_fst S r p = false := by
  cases hb : ks_fst S r p
  · rfl
  · unfold ks_fst at hb
    rw [List.all_eq_true] at hb
    exact absurd h (of_decide_eq_true (hb j (List.mem_range.mpr hj)))
/-- sums of cells, as the machine adds -/
def su_c (g : Nat → Int32) : Nat → Int32
  | 0 => 0
  | n + 1 => su_c g n + g n
def su_r (g : Nat → Nat → Int32) : Nat → Int32
  | 0 => 0
  | n + 1 => su_r g n + su_c (g n) 8
