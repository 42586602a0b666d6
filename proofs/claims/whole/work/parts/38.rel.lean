/-! class and reference in step: the relation, what it gives -/
def rl (S : ks_T) (M : ms_T) : Prop := kv_c S ∧ mv_ok M ∧ (∀ r, r < 40 → ks_P S r = mv_P M r) ∧ (∀ r p, r < 40 → p < 32 → ks_F S r p = mv_F M r p) ∧ (∀ f d, f < 200 → d < 8 → ms_C M (8 * f + d) = ks_C S (f + 1) d) ∧ ∀ d, d < 8 → ks_C S 0 d = 0
section RL
variable {S S' : ks_T} {M M' : ms_T}
theorem rl.V (h : rl S M) : kv_c S := h.1
theorem rl.O (h : rl S M) : mv_ok M := h.2.1
theorem rl.P (h : rl S M) : ∀ r, r < 40 → ks_P S r = mv_P M r := h.2.2.1
theorem rl.F (h : rl S M) : ∀ r p, r < 40 → p < 32 → ks_F S r p = mv_F M r p := h.2.2.2.1
theorem rl.C (h : rl S M) : ∀ f d, f < 200 → d < 8 → ms_C M (8 * f + d) = ks_C S (f + 1) d := h.2.2.2.2.1
theorem rl.Z (h : rl S M) : ∀ d, d < 8 → ks_C S 0 d = 0 := h.2.2.2.2.2
theorem rl.st (h : rl S M) (t : Nat) : rl S (ms_st M t) := h
theorem rl.hP (h : rl S M) : ∀ r, r < 40 → ks_P S r ≤ 33 := fun r hr => by
  rw [h.P r hr]
  unfold mv_P
  have := h.O.2.1 r hr
  split <;> omega
theorem rl.B (h : rl S M) {r : Nat} (hr : r < 40) : ks_P S r = 0 ↔ ms_B M r = 0 := by
  rw [h.P r hr]
  by_cases e : ms_B M r = 0
  · rw [mv_P0 e]
    exact ⟨fun _ => e, fun _ => rfl⟩
  · rw [mv_P1 e]
    exact ⟨fun w => by omega, fun w => absurd w e⟩
theorem rl.P1 (h : rl S M) {r : Nat} (hr : r < 40) (h0 : ks_P S r ≠ 0) : ks_P S r = ms_P M r + 1 := by
  rw [h.P r hr]
  exact mv_P1 (fun e => h0 ((h.B hr).mpr e))
theorem cn_f_congr {F F' : Nat → Nat → Nat} (e : ∀ r p, r < 40 → p < 32 → F r p = F' r p) (f : Nat) : cn_f F f = cn_f F' f :=
  ct_s_congr (fun r hr => ct_b_congr (fun p hp => by rw [e r p hr hp]))
theorem rl.H (h : rl S M) {f : Nat} (h0 : f ≠ 0) (h2 : f ≤ 200) : ks_H S f = cn_f (mv_F M) f := by
  rw [h.V.2.1 f h0 h2]
  exact cn_f_congr h.F f
theorem rl.nz (h : rl S M) : nz_f (ks_H S) = nz_f (cn_f (mv_F M)) := nz_congr (fun f h1 h2 => by rw [h.H (by omega) h2])
theorem rl.norow (h : rl S M) {x : Int32} (hx : ks_row S x = false) : ∀ j, ¬ mo_row M x j := by
  intro j hm
  rw [hm.2.1, ks_row_at hm.1] at hx
  exact of_decide_eq_false hx (fun e => hm.2.2 ((h.B hm.1).mp e))
theorem rl.row (h : rl S M) {x : Int32} {j : Nat} (hj : j < 40) (e : x = nI j) (h0 : ks_P S j ≠ 0) : mo_row M x j := ⟨hj, e, fun w => h0 ((h.B hj).mpr w)⟩
theorem rl.rowT (h : rl S M) {x : Int32} (hx : ks_row S x = true) : ∃ j, mo_row M x j := by
  obtain ⟨j, hj, e, h0⟩ := ks_row_ex hx
  exact ⟨j, h.row hj e h0⟩
theorem mo_row1 {x : Int32} {j i : Nat} (hm : mo_row M x i) (hj : j < 40) (e : x = nI j) : i = j := by
  have h1 := hm.1
  exact (nI_eq (by omega) (by omega)).mp (hm.2.1.symm.trans e)
theorem rl.nopage (h : rl S M) {x y : Int32} (hx : ks_page S x y = false) : ∀ j a, ¬ mo_pg M x y j a := by
  intro j a hm
  have h0 : ks_P S j ≠ 0 := fun e => hm.1.2.2 ((h.B hm.1.1).mp e)
  have h1 := h.P1 hm.1.1 h0
  have h2 := h.O.2.1 j hm.1.1
  have h3 := hm.2.2
  rw [hm.1.2.1, ks_page_at hm.1.1 h0, hm.2.1, decide_eq_true (nI_pos (by omega)), decide_eq_true (nI_lt (by omega) (by omega))] at hx
  exact absurd hx (by decide)
theorem rl.page (h : rl S M) {x y : Int32} {j a : Nat} (hj : j < 40) (e : x = nI j) (e2 : y = nI a) (h0 : a + 1 < ks_P S j) : mo_pg M x y j a := by
  have h1 := h.P1 hj (by omega)
  exact ⟨h.row hj e (by omega), e2, by omega⟩
theorem rl.pageT (h : rl S M) {x y : Int32} (hx : ks_page S x y = true) : ∃ j a, mo_pg M x y j a := by
  obtain ⟨j, a, hj, e, e2, h0, _⟩ := ks_page_ex h.hP hx
  exact ⟨j, a, h.page hj e e2 h0⟩
theorem mo_pg1 {x y : Int32} {j a i b : Nat} (hO : mv_ok M) (hm : mo_pg M x y i b) (hj : j < 40) (e : x = nI j) (ha : a < 32) (e2 : y = nI a) : i = j ∧ b = a := by
  have h1 := hm.2.2
  have h2 := hO.2.1 i hm.1.1
  exact ⟨mo_row1 hm.1 hj e, (nI_eq (by omega) (by omega)).mp (hm.2.1.symm.trans e2)⟩
theorem rl.nopages (h : rl S M) {x y z : Int32} (hx : ks_pages S x y z = false) : ∀ j a b, ¬ mo_pgs M x y z j a b := by
  intro j a b hm
  have h0 : ks_P S j ≠ 0 := fun e => hm.1.2.2 ((h.B hm.1.1).mp e)
  have h1 := h.P1 hm.1.1 h0
  have h2 := h.O.2.1 j hm.1.1
  have h3 := hm.2.2.2
  rw [hm.1.2.1, ks_pages_at hm.1.1 h0, hm.2.1, hm.2.2.1, decide_eq_true (nI_pos (by omega)), decide_eq_true (nI_pos (by omega)), pk_sub (by omega), decide_eq_true (nI_le (by omega) (by omega))] at hx
  exact absurd hx (by decide)
theorem rl.pages (h : rl S M) {x y z : Int32} {j a b : Nat} (hj : j < 40) (e : x = nI j) (e2 : y = nI a) (e3 : z = nI b) (h0 : a + b + 1 ≤ ks_P S j) : mo_pgs M x y z j a b := by
  have h1 := h.P1 hj (by omega)
  exact ⟨h.row hj e (by omega), e2, e3, by omega⟩
theorem rl.pagesT (h : rl S M) {x y z : Int32} (hx : ks_pages S x y z = true) : ∃ j a b, mo_pgs M x y z j a b := by
  obtain ⟨j, a, b, hj, e, e2, e3, h0, h1, _⟩ := ks_pages_ex h.hP hx
  exact ⟨j, a, b, h.pages hj e e2 e3 h1⟩
theorem mo_pgs1 {x y z : Int32} {j a b i a' b' : Nat} (hO : mv_ok M) (hm : mo_pgs M x y z i a' b') (hj : j < 40) (e : x = nI j) (ha : a ≤ 32) (e2 : y = nI a) (hb : b ≤ 32) (e3 : z = nI b) : i = j ∧ a' = a ∧ b' = b := by
  have h1 := hm.2.2.2
  have h2 := hO.2.1 i hm.1.1
  exact ⟨mo_row1 hm.1 hj e, (nI_eq (by omega) (by omega)).mp (hm.2.1.symm.trans e2), (nI_eq (by omega) (by omega)).mp (hm.2.2.1.symm.trans e3)⟩
theorem rl.Fp (h : rl S M) {j a : Nat} (hj : j < 40) (h0 : a + 1 < ks_P S j) : ks_F S j a = ms_F M (32 * j + a) := by
  have h1 := h.hP j hj
  rw [h.F j a hj (by omega)]
  unfold mv_F
  rw [← h.P j hj, if_pos h0]
theorem rl.F0 (h : rl S M) {j a : Nat} (hj : j < 40) (ha : a < 32) (h0 : ks_P S j ≤ a + 1) : ks_F S j a = 0 := by
  rw [h.F j a hj ha]
  unfold mv_F
  rw [← h.P j hj, if_neg (by omega)]
theorem rl.c (h : rl S M) {g d : Nat} (hg : g ≤ 200) (hd : d < 8) : ks_C S g d = ms_c M g d := by
  unfold ms_c
  by_cases h0 : g = 0
  · rw [if_pos h0, h0]
    exact h.Z d hd
  · rw [if_neg h0, h.C (g - 1) d (by omega) hd, show g - 1 + 1 = g by omega]
theorem ks_cnt_I {k : Nat} (hk : k ≤ 32) : ks_cnt (nI k) = true := by
  unfold ks_cnt
  rw [decide_eq_true (nI_pos (by omega)), decide_eq_true (nI_le (by omega) (by omega))]
  rfl
theorem ks_cell_I {k : Nat} (hk : k < 8) : ks_cell (nI k) = true := by
  unfold ks_cell
  rw [decide_eq_true (nI_pos (by omega)), decide_eq_true (nI_lt (by omega) (by omega))]
  rfl
/-- the first row that is not there is the same -/
theorem rl.first (h : rl S M) {r i : Nat} (hr : r < 40) (h0 : ks_P S r = 0) (hm : ∀ j, j < r → ks_P S j ≠ 0) (hi : i < 40) (h1 : ms_B M i = 0) (h2 : ∀ j, j < i → ms_B M j ≠ 0) : i = r := by
  by_cases a : i < r
  · exact absurd ((h.B hi).mpr h1) (hm i a)
  · by_cases b : r < i
    · exact absurd ((h.B hr).mp h0) (h2 r b)
    · omega
/-- a row that comes: its pages plus one, its frames -/
def ms_nr (M : ms_T) (r k : Nat) (g : Nat → Nat) : ms_T := ms_uF (ms_sP (ms_sB (ms_st M 0) r 1) r k) (mf_w (ms_F M) (32 * r) g k)
theorem nr_P (M : ms_T) (r k : Nat) (g : Nat → Nat) (j : Nat) : mv_P (ms_nr M r k g) j = if j = r then k + 1 else mv_P M j := by
  unfold mv_P
  show (if ks_uN (ms_B M) r 1 j = 0 then 0 else ks_uN (ms_P M) r k j + 1) = _
  unfold ks_uN
  by_cases e : j = r
  · rw [if_pos e, if_pos e, if_pos e, if_neg (by omega)]
  · rw [if_neg e, if_neg e, if_neg e]
theorem nr_F (M : ms_T) {r k : Nat} (g : Nat → Nat) (hk : k ≤ 32) (j p : Nat) (hp : p < 32) : mv_F (ms_nr M r k g) j p = if j = r then (if p < k then g p else 0) else mv_F M j p := by
  unfold mv_F
  rw [nr_P]
  show (if p + 1 < (if j = r then k + 1 else mv_P M j) then mf_w (ms_F M) (32 * r) g k (32 * j + p) else 0) = _
  by_cases e : j = r
  · rw [if_pos e, if_pos e]
    by_cases h : p < k
    · rw [if_pos (by omega), if_pos h, e, mf_in _ _ h]
    · rw [if_neg (by omega), if_neg h]
  · rw [if_neg e, if_neg e, mf_out _ _ (by omega)]
theorem nr_ok (hO : mv_ok M) {r k : Nat} {g : Nat → Nat} (hk : k ≤ 32) (hg : ∀ i, i < k → g i ≤ 200) : mv_ok (ms_nr M r k g) := by
  refine ⟨fun j hj => ?_, fun j hj => ?_, fun i hi => ?_⟩
  · show ks_uN (ms_B M) r 1 j ≤ 1
    unfold ks_uN
    split
    · omega
    · exact hO.1 j hj
  · show ks_uN (ms_P M) r k j ≤ 32
    unfold ks_uN
    split
    · exact hk
    · exact hO.2.1 j hj
  · show mf_w (ms_F M) (32 * r) g k i ≤ 200
    unfold mf_w
    split
    · exact hg _ (by omega)
    · exact hO.2.2 i hi
theorem rl_make_o {x v b : Int32} (h : rl S M) (ho : qo_make S x v S') (hm : qm_make M x b M') : ms_t M' = 0 ∧ v = b ∧ rl S' M' := by
  obtain ⟨r, k, hr, hk, rfl, hr0, hrm, rfl, rfl⟩ := ho
  rcases hm with ⟨hc, _⟩ | ⟨_, hall, _⟩ | ⟨i, k', hi, hk', ek, hB, hBm, rfl, rfl⟩
  · rw [ks_cnt_I hk] at hc
    cases hc
  · exact absurd ((h.B hr).mp hr0) (hall r hr)
  · obtain rfl := h.first hr hr0 hrm hi hB hBm
    obtain rfl : k = k' := (nI_eq (by omega) (by omega)).mp ek
    refine ⟨rfl, rfl, h.V, nr_ok h.O hk (fun _ _ => Nat.zero_le _), fun j hj => ?_, fun j p hj hp => ?_, h.C, h.Z⟩
    · have e := nr_P M i k (fun _ => 0) j
      refine Eq.trans ?_ e.symm
      show ks_uN (ks_P S) i (k + 1) j = _
      unfold ks_uN
      rw [h.P j hj]
    · have e := nr_F M (r := i) (fun _ => 0) hk j p hp
      refine Eq.trans ?_ e.symm
      show ks_F S j p = _
      by_cases q : j = i
      · rw [if_pos q, q, h.F0 hr hp (by omega)]
        split <;> rfl
      · rw [if_neg q]
        exact h.F j p hj hp
theorem rl_make_x {x b : Int32} {E : String} (h : rl S M) (ho : qx_make S x E) (hm : qm_make M x b M') : ((E = kx_iae ∧ ms_t M' = 1) ∨ (E = kx_ise ∧ ms_t M' = 2)) ∧ rl S M' := by
  rcases ho with ⟨rfl, hc⟩ | ⟨rfl, hc, hall⟩
  · rcases hm with ⟨_, _, rfl⟩ | ⟨hc2, _⟩ | ⟨i, k', hi, hk', rfl, _⟩
    · exact ⟨Or.inl ⟨rfl, rfl⟩, h⟩
    · rw [hc] at hc2
      cases hc2
    · rw [ks_cnt_I hk'] at hc
      cases hc
  · rcases hm with ⟨hc2, _⟩ | ⟨_, _, _, rfl⟩ | ⟨i, k', hi, hk', rfl, hB, _⟩
    · rw [hc] at hc2
      cases hc2
    · exact ⟨Or.inr ⟨rfl, rfl⟩, h⟩
    · exact absurd ((h.B hi).mpr hB) (hall i hi)
/-! share -/
theorem pt_F (S : ks_T) (r p g : Nat) : ks_F (ks_pt S r p g) = cn_u (ks_F S) r p g := rfl
theorem sh_P (T : ks_T) (r j a : Nat) : ∀ n, ks_P (ks_sh T r j a n) = ks_P T
  | 0 => rfl
  | n + 1 => sh_P T r j a n
theorem sh_C (T : ks_T) (r j a : Nat) : ∀ n, ks_C (ks_sh T r j a n) = ks_C T
  | 0 => rfl
  | n + 1 => sh_C T r j a n
theorem sh_F {T : ks_T} {r j a : Nat} (hrj : j ≠ r) : ∀ n x y, ks_F (ks_sh T r j a n) x y = if x = r ∧ y < n then ks_F T j (a + y) else ks_F T x y
  | 0, x, y => by
    rw [if_neg (by omega)]
    rfl
  | n + 1, x, y => by
    show cn_u (ks_F (ks_sh T r j a n)) r n (ks_F (ks_sh T r j a n) j (a + n)) x y = _
    by_cases e : x = r ∧ y = n
    · rw [e.1, e.2, cn_u_s, sh_F hrj n, if_neg (fun w => hrj w.1), if_pos (by omega)]
    · rw [cn_u_n e, sh_F hrj n]
      by_cases q : x = r ∧ y < n
      · rw [if_pos q, if_pos ⟨q.1, by omega⟩]
      · rw [if_neg q, if_neg (fun w => q ⟨w.1, by omega⟩)]
theorem rl_share_o {x y z v b : Int32} (h : rl S M) (ho : qo_share S x y z v S') (hm : qm_share M x y z b M') : ms_t M' = 0 ∧ v = b ∧ rl S' M' := by
  obtain ⟨j, a, k, r, hj, rfl, rfl, rfl, hj0, hab, hr, hr0, hrm, rfl, rfl⟩ := ho
  have h33 := h.hP j hj
  have hP1 := h.P1 hj hj0
  rcases hm with ⟨hno, _⟩ | ⟨j', a', k', hp, hm⟩
  · exact absurd (h.pages hj rfl rfl rfl hab) (hno j a k)
  · obtain ⟨rfl, rfl, rfl⟩ := mo_pgs1 h.O hp hj rfl (a := a) (by omega) rfl (b := k) (by omega) rfl
    rcases hm with ⟨hall, _⟩ | ⟨i, hi, hB, hBm, rfl, rfl⟩
    · exact absurd ((h.B hr).mp hr0) (hall r hr)
    · obtain rfl := h.first hr hr0 hrm hi hB hBm
      have hne : j' ≠ i := fun e => hj0 (by rw [e]; exact hr0)
      have hV1 : kv_c (ks_sP S i (k' + 1)) := h.V
      refine ⟨rfl, rfl, kv_sh hV1 hi hj k' (by omega), nr_ok h.O (by omega) (fun t ht => h.O.2.2 _ (by omega)), fun t ht => ?_, fun t p ht hp2 => ?_, fun f d hf hd => ?_, fun d hd => ?_⟩
      · have e := nr_P M i k' (fun t => ms_F M (32 * j' + (a' + t))) t
        refine Eq.trans ?_ e.symm
        rw [sh_P]
        show ks_uN (ks_P S) i (k' + 1) t = _
        unfold ks_uN
        rw [h.P t ht]
      · have e := nr_F M (r := i) (k := k') (fun t => ms_F M (32 * j' + (a' + t))) (by omega) t p hp2
        refine Eq.trans ?_ e.symm
        rw [sh_F hne]
        show (if t = i ∧ p < k' then ks_F S j' (a' + p) else ks_F S t p) = _
        by_cases q : t = i
        · rw [if_pos q]
          by_cases q2 : p < k'
          · rw [if_pos ⟨q, q2⟩, if_pos q2]
            exact h.Fp hj (by omega)
          · rw [if_neg (fun w => q2 w.2), if_neg q2, q, h.F0 hi hp2 (by omega)]
        · rw [if_neg q, if_neg (fun w => q w.1)]
          exact h.F t p ht hp2
      · rw [sh_C]
        exact h.C f d hf hd
      · rw [sh_C]
        exact h.Z d hd
theorem rl_share_x {x y z b : Int32} {E : String} (h : rl S M) (ho : qx_share S x y z E) (hm : qm_share M x y z b M') : ((E = kx_nse ∧ ms_t M' = 1) ∨ (E = kx_ise ∧ ms_t M' = 2)) ∧ rl S M' := by
  rcases ho with ⟨rfl, hc⟩ | ⟨rfl, hc, hall⟩
  · rcases hm with ⟨_, _, rfl⟩ | ⟨j, a, k, hp, _⟩
    · exact ⟨Or.inl ⟨rfl, rfl⟩, h⟩
    · exact absurd hp (h.nopages hc j a k)
  · rcases hm with ⟨hno, _⟩ | ⟨j, a, k, hp, hm⟩
    · obtain ⟨j, a, k, hp⟩ := h.pagesT hc
      exact absurd hp (hno j a k)
    · rcases hm with ⟨_, _, rfl⟩ | ⟨i, hi, hB, _⟩
      · exact ⟨Or.inr ⟨rfl, rfl⟩, h⟩
      · exact absurd ((h.B hi).mpr hB) (hall i hi)
end RL
