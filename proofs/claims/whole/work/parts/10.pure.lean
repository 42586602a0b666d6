/-! pure rows: counts and sums over the first n numbers -/
def ct_b (q : Nat → Bool) : Nat → Nat
  | 0 => 0
  | n + 1 => ct_b q n + (if q n = true then 1 else 0)
def ct_s (g : Nat → Nat) : Nat → Nat
  | 0 => 0
  | n + 1 => ct_s g n + g n
theorem ct_s_congr {g h : Nat → Nat} : ∀ {n : Nat}, (∀ i, i < n → g i = h i) → ct_s g n = ct_s h n
  | 0, _ => rfl
  | n + 1, e => by
    have h1 := ct_s_congr (g := g) (h := h) (n := n) (fun i hi => e i (Nat.lt_succ_of_lt hi))
    have h2 := e n (Nat.lt_succ_self n)
    show ct_s g n + g n = ct_s h n + h n
    omega
theorem ct_b_s (q : Nat → Bool) : ∀ n, ct_b q n = ct_s (fun i => if q i = true then 1 else 0) n
  | 0 => rfl
  | n + 1 => by
    show ct_b q n + _ = ct_s _ n + _
    rw [ct_b_s q n]
theorem ct_b_congr {q q' : Nat → Bool} {n : Nat} (e : ∀ i, i < n → q i = q' i) : ct_b q n = ct_b q' n := by
  rw [ct_b_s, ct_b_s]
  exact ct_s_congr (fun i hi => by rw [e i hi])
theorem ct_b_le (q : Nat → Bool) : ∀ n, ct_b q n ≤ n
  | 0 => Nat.le_refl _
  | n + 1 => by
    have h := ct_b_le q n
    show ct_b q n + (if q n = true then 1 else 0) ≤ n + 1
    split <;> omega
theorem ct_s_up {g h : Nat → Nat} {k : Nat} : ∀ {n : Nat}, k < n → (∀ i, i < n → i ≠ k → h i = g i) → ct_s h n + g k = ct_s g n + h k
  | 0, hk, _ => absurd hk (Nat.not_lt_zero _)
  | n + 1, hk, e => by
    show ct_s h n + h n + g k = ct_s g n + g n + h k
    by_cases hn : k = n
    · subst hn
      have h1 := ct_s_congr (g := h) (h := g) (n := k) (fun i hi => e i (Nat.lt_succ_of_lt hi) (Nat.ne_of_lt hi))
      omega
    · have h1 := ct_s_up (g := g) (h := h) (k := k) (n := n) (by omega) (fun i hi hne => e i (Nat.lt_succ_of_lt hi) hne)
      have h2 := e n (Nat.lt_succ_self n) (fun z => hn z.symm)
      omega
theorem ct_s_le {g : Nat → Nat} {b : Nat} : ∀ {n : Nat}, (∀ i, i < n → g i ≤ b) → ct_s g n ≤ n * b
  | 0, _ => Nat.zero_le _
  | n + 1, e => by
    have h1 := ct_s_le (g := g) (b := b) (n := n) (fun i hi => e i (Nat.lt_succ_of_lt hi))
    have h2 := e n (Nat.lt_succ_self n)
    show ct_s g n + g n ≤ (n + 1) * b
    rw [Nat.succ_mul]
    omega
theorem ct_s_mono {g h : Nat → Nat} : ∀ {n : Nat}, (∀ i, i < n → g i ≤ h i) → ct_s g n ≤ ct_s h n
  | 0, _ => Nat.le_refl _
  | n + 1, e => by
    have h1 := ct_s_mono (g := g) (h := h) (n := n) (fun i hi => e i (Nat.lt_succ_of_lt hi))
    have h2 := e n (Nat.lt_succ_self n)
    show ct_s g n + g n ≤ ct_s h n + h n
    omega
theorem ct_s_pos {g : Nat → Nat} : ∀ {n : Nat}, 0 < ct_s g n ↔ ∃ i, i < n ∧ 0 < g i
  | 0 => ⟨fun h => absurd h (Nat.lt_irrefl 0), fun ⟨i, hi, _⟩ => absurd hi (Nat.not_lt_zero i)⟩
  | n + 1 => by
    show 0 < ct_s g n + g n ↔ _
    constructor
    · intro h
      by_cases h0 : 0 < g n
      · exact ⟨n, Nat.lt_succ_self n, h0⟩
      · obtain ⟨i, hi, hg⟩ := (ct_s_pos (g := g) (n := n)).mp (by omega)
        exact ⟨i, Nat.lt_succ_of_lt hi, hg⟩
    · intro ⟨i, hi, hg⟩
      by_cases hin : i = n
      · subst hin
        omega
      · have := (ct_s_pos (g := g) (n := n)).mpr ⟨i, by omega, hg⟩
        omega
theorem ct_s_add {g h : Nat → Nat} : ∀ {n : Nat}, ct_s (fun i => g i + h i) n = ct_s g n + ct_s h n
  | 0 => rfl
  | n + 1 => by
    have := ct_s_add (g := g) (h := h) (n := n)
    show ct_s (fun i => g i + h i) n + (g n + h n) = ct_s g n + g n + (ct_s h n + h n)
    omega
theorem ct_b_pos {q : Nat → Bool} {n : Nat} : 0 < ct_b q n ↔ ∃ i, i < n ∧ q i = true := by
  rw [ct_b_s, ct_s_pos]
  constructor
  · intro ⟨i, hi, h⟩
    refine ⟨i, hi, ?_⟩
    by_cases hq : q i = true
    · exact hq
    · rw [if_neg hq] at h
      omega
  · intro ⟨i, hi, h⟩
    exact ⟨i, hi, by rw [if_pos h]; omega⟩
theorem ct_s_zero {g : Nat → Nat} {n : Nat} : ct_s g n = 0 ↔ ∀ i, i < n → g i = 0 := by
  constructor
  · intro h i hi
    by_cases h0 : g i = 0
    · exact h0
    · have := (ct_s_pos (g := g) (n := n)).mpr ⟨i, hi, by omega⟩
      omega
  · intro h
    by_cases h0 : ct_s g n = 0
    · exact h0
    · obtain ⟨i, hi, hg⟩ := (ct_s_pos (g := g) (n := n)).mp (by omega)
      have := h i hi
      omega
/-- how many places of a row, of all rows, hold the number f -/
def cn_r (A : Nat → Nat) (f : Nat) : Nat := ct_b (fun p => decide (A p = f)) 32
def cn_f (F : Nat → Nat → Nat) (f : Nat) : Nat := ct_s (fun r => cn_r (F r) f) 40
def cn_u (F : Nat → Nat → Nat) (r p g : Nat) : Nat → Nat → Nat := fun a b => if a = r ∧ b = p then g else F a b
theorem cn_u_s (F : Nat → Nat → Nat) (r p g : Nat) : cn_u F r p g r p = g := by simp [cn_u]
theorem cn_u_n {F : Nat → Nat → Nat} {r p g a b : Nat} (h : ¬ (a = r ∧ b = p)) : cn_u F r p g a b = F a b := if_neg h
theorem cn_r_le (A : Nat → Nat) (f : Nat) : cn_r A f ≤ 32 := ct_b_le _ _
theorem cn_f_le (F : Nat → Nat → Nat) (f : Nat) : cn_f F f ≤ 1280 := by
  have := ct_s_le (g := fun r => cn_r (F r) f) (b := 32) (n := 40) (fun i _ => cn_r_le _ _)
  exact this
theorem cn_r_pos {A : Nat → Nat} {f : Nat} : 0 < cn_r A f ↔ ∃ p, p < 32 ∧ A p = f := by
  unfold cn_r
  rw [ct_b_pos]
  simp only [decide_eq_true_eq]
theorem cn_f_pos {F : Nat → Nat → Nat} {f : Nat} : 0 < cn_f F f ↔ ∃ r p, r < 40 ∧ p < 32 ∧ F r p = f := by
  unfold cn_f
  rw [ct_s_pos]
  constructor
  · intro ⟨r, hr, h⟩
    obtain ⟨p, hp, e⟩ := cn_r_pos.mp h
    exact ⟨r, p, hr, hp, e⟩
  · intro ⟨r, p, hr, hp, e⟩
    exact ⟨r, hr, cn_r_pos.mpr ⟨p, hp, e⟩⟩
theorem cn_r_up {A B : Nat → Nat} {p f : Nat} (hp : p < 32) (e : ∀ b, b < 32 → b ≠ p → B b = A b) : cn_r B f + (if A p = f then 1 else 0) = cn_r A f + (if B p = f then 1 else 0) := by
  unfold cn_r
  rw [ct_b_s, ct_b_s]
  have h := ct_s_up (g := fun i => if decide (A i = f) = true then 1 else 0) (h := fun i => if decide (B i = f) = true then 1 else 0) hp (fun i hi hne => by
    show (if decide (B i = f) = true then 1 else 0) = (if decide (A i = f) = true then 1 else 0)
    rw [e i hi hne])
  simp only [decide_eq_true_eq] at h ⊢
  exact h
theorem cn_f_up {F : Nat → Nat → Nat} {r p g f : Nat} (hr : r < 40) (hp : p < 32) : cn_f (cn_u F r p g) f + (if F r p = f then 1 else 0) = cn_f F f + (if g = f then 1 else 0) := by
  have h1 := ct_s_up (g := fun a => cn_r (F a) f) (h := fun a => cn_r (cn_u F r p g a) f) hr (fun i _ hne => by
    show cn_r (cn_u F r p g i) f = cn_r (F i) f
    refine congrArg (fun z => cn_r z f) (funext fun b => ?_)
    exact cn_u_n (fun z => hne z.1))
  have h2 := cn_r_up (A := F r) (B := cn_u F r p g r) (f := f) hp (fun b _ hne => cn_u_n (fun z => hne z.2))
  rw [cn_u_s] at h2
  have h3 : ct_s (fun a => cn_r (cn_u F r p g a) f) 40 + cn_r (F r) f = ct_s (fun a => cn_r (F a) f) 40 + cn_r (cn_u F r p g r) f := h1
  show ct_s (fun a => cn_r (cn_u F r p g a) f) 40 + _ = ct_s (fun a => cn_r (F a) f) 40 + _
  omega
/-- how many of the frames 1 to 200 are held, by their holders -/
def nz_f (h : Nat → Nat) : Nat := ct_b (fun i => decide (0 < h (i + 1))) 200
theorem nz_congr {h h' : Nat → Nat} (e : ∀ f, 1 ≤ f → f ≤ 200 → (0 < h f ↔ 0 < h' f)) : nz_f h = nz_f h' := by
  unfold nz_f
  refine ct_b_congr (fun i hi => ?_)
  have := e (i + 1) (by omega) (by omega)
  simp only [this]
theorem nz_down {h h' : Nat → Nat} {f : Nat} (h1 : 1 ≤ f) (h2 : f ≤ 200) (hp : 0 < h f) (e : ∀ i, i ≠ f → h' i = h i) : nz_f h = nz_f h' + (if h' f = 0 then 1 else 0) := by
  unfold nz_f
  rw [ct_b_s, ct_b_s]
  have k := ct_s_up (g := fun i => if decide (0 < h (i + 1)) = true then 1 else 0) (h := fun i => if decide (0 < h' (i + 1)) = true then 1 else 0) (k := f - 1) (n := 200) (by omega) (fun i hi hne => by
    show (if decide (0 < h' (i + 1)) = true then 1 else 0) = (if decide (0 < h (i + 1)) = true then 1 else 0)
    rw [e (i + 1) (by omega)])
  have e1 : f - 1 + 1 = f := by omega
  simp only [e1, decide_eq_true_eq, hp, if_true] at k
  simp only [decide_eq_true_eq]
  by_cases h0 : h' f = 0
  · rw [if_pos h0]
    rw [h0] at k
    simp only [Nat.lt_irrefl, if_false] at k
    omega
  · rw [if_neg h0]
    rw [if_pos (show 0 < h' f by omega)] at k
    omega
theorem nz_le (h : Nat → Nat) : nz_f h ≤ 200 := ct_b_le _ _
/-- the least number below n with q, or n -/
def ls_b (q : Nat → Bool) : Nat → Nat
  | 0 => 0
  | n + 1 => if ls_b q n < n then ls_b q n else if q n = true then n else n + 1
theorem ls_le (q : Nat → Bool) : ∀ n, ls_b q n ≤ n
  | 0 => Nat.le_refl _
  | n + 1 => by
    have h := ls_le q n
    show (if ls_b q n < n then ls_b q n else if q n = true then n else n + 1) ≤ n + 1
    split
    · omega
    · split <;> omega
theorem ls_no {q : Nat → Bool} : ∀ {n i : Nat}, i < ls_b q n → q i = false
  | 0, i, h => absurd h (Nat.not_lt_zero i)
  | n + 1, i, h => by
    have h' : i < (if ls_b q n < n then ls_b q n else if q n = true then n else n + 1) := h
    split at h'
    · exact ls_no h'
    · rename_i hn
      have he : ls_b q n = n := by
        have := ls_le q n
        omega
      split at h'
      · exact ls_no (n := n) (by omega)
      · rename_i hq
        by_cases hi : i = n
        · subst hi
          simpa using hq
        · exact ls_no (n := n) (by omega)
theorem ls_yes {q : Nat → Bool} : ∀ {n : Nat}, ls_b q n < n → q (ls_b q n) = true
  | 0, h => absurd h (Nat.not_lt_zero _)
  | n + 1, h => by
    have e : ls_b q (n + 1) = (if ls_b q n < n then ls_b q n else if q n = true then n else n + 1) := rfl
    rw [e] at h ⊢
    by_cases h1 : ls_b q n < n
    · rw [if_pos h1]
      exact ls_yes h1
    · rw [if_neg h1] at h ⊢
      by_cases h2 : q n = true
      · rw [if_pos h2]
        exact h2
      · rw [if_neg h2] at h
        omega
theorem ls_is {q : Nat → Bool} {n k : Nat} (hk : k < n) (hy : q k = true) (hn : ∀ i, i < k → q i = false) : ls_b q n = k := by
  by_cases h1 : ls_b q n < k
  · have := ls_yes (q := q) (n := n) (by omega)
    rw [hn _ h1] at this
    cases this
  · by_cases h2 : k < ls_b q n
    · have := ls_no (q := q) (n := n) h2
      rw [hy] at this
      cases this
    · omega
theorem ls_none {q : Nat → Bool} {n : Nat} (hn : ∀ i, i < n → q i = false) : ls_b q n = n := by
  have h1 := ls_le q n
  by_cases h2 : ls_b q n < n
  · have := ls_yes h2
    rw [hn _ h2] at this
    cases this
  · omega
