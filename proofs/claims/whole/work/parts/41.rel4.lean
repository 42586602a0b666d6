/-! merge, about, count in step -/
section RL4
variable {S S' : ks_T} {M M' : ms_T}
theorem rl_sm (h : rl S M) {f g : Nat} (hf : f < 200) (hg : g < 200) : ms_same M f g = ks_same S (f + 1) (g + 1) := by
  refine Bool.eq_iff_iff.mpr ?_
  rw [ks_same_iff, ms_same_iff]
  constructor
  · intro w d hd
    rw [← h.C f d hf hd, ← h.C g d hg hd]
    exact w d hd
  · intro w d hd
    rw [h.C f d hf hd, h.C g d hg hd]
    exact w d hd
theorem mg_keep {f : Nat} {T : ms_T × Nat} : ∀ {n : Nat}, (∀ g, g < n → cn_f (mv_F T.1) (g + 1) = 0 ∨ ms_same T.1 f g = false) → mg_i f T n = T
  | 0, _ => rfl
  | n + 1, e => by
    show mg_c f (mg_i f T n) n = T
    rw [mg_keep (fun g hg => e g (by omega))]
    rcases e n (by omega) with w | w
    · exact mg_n2 w
    · exact mg_n3 w
/-- the state after the frames below n, in the reference's merge -/
def mgv_I (S : ks_T) (M : ms_T) (n : Nat) (T : ms_T × Nat) : Prop := mv_ok T.1 ∧ ms_C T.1 = ms_C M ∧ mv_P T.1 = mv_P M ∧ ms_t T.1 = ms_t M ∧ (∀ r p, r < 40 → p < 32 → mv_F T.1 r p = if ks_F S r p ≤ n then ks_ke S (ks_F S r p) else ks_F S r p) ∧ nz_f (cn_f (mv_F M)) = nz_f (cn_f (mv_F T.1)) + T.2
theorem mg_step (h : rl S M) {n : Nat} (hn : n < 200) {T : ms_T × Nat} (hT : mgv_I S M n T) : mgv_I S M (n + 1) (mg_i n T n) := by
  obtain ⟨h1, h2, h3, h3t, h4, h5⟩ := hT
  have hke : ∀ r p, r < 40 → p < 32 → ks_F S r p ≠ 0 → ks_ke S (ks_F S r p) ≤ ks_F S r p := fun r p hr hp h0 => (ke_p h.V (by omega) (by have := kv_1 h.V hr hp h0; omega)).2.1
  have hsm : ∀ g, g < 200 → ms_same T.1 n g = ks_same S (n + 1) (g + 1) := fun g hg => by
    rw [← rl_sm h hn hg]
    unfold ms_same
    rw [h2]
  have hkn : ∀ r p, r < 40 → p < 32 → (mv_F T.1 r p = n + 1 ↔ ks_F S r p = n + 1) := fun r p hr hp => by
    rw [h4 r p hr hp]
    by_cases e : ks_F S r p ≤ n
    · rw [if_pos e]
      by_cases z : ks_F S r p = 0
      · rw [z, ke_0 h.V]
      · have := hke r p hr hp z
        omega
    · rw [if_neg e]
  have hheld : ∀ g, g < n → cn_f (mv_F T.1) (g + 1) ≠ 0 → ks_H S (g + 1) ≠ 0 := fun g hg hc => by
    obtain ⟨r, p, hr, hp, e⟩ := cn_f_pos.mp (show 0 < cn_f (mv_F T.1) (g + 1) by omega)
    rw [h4 r p hr hp] at e
    by_cases q : ks_F S r p ≤ n
    · rw [if_pos q] at e
      have z : ks_F S r p ≠ 0 := fun z => by
        rw [z, ke_0 h.V] at e
        omega
      have := (ke_p h.V (by omega) (show ks_H S (ks_F S r p) ≠ 0 by have := kv_1 h.V hr hp z; omega)).2.2.1
      rw [e] at this
      exact this
    · rw [if_neg q] at e
      omega
  by_cases hH : ks_H S (n + 1) = 0
  · have hc : cn_f (mv_F T.1) (n + 1) = 0 := by
      by_cases w : 0 < cn_f (mv_F T.1) (n + 1)
      · obtain ⟨r, p, hr, hp, e⟩ := cn_f_pos.mp w
        have e2 := (hkn r p hr hp).mp e
        have := kv_1 h.V hr hp (by omega)
        rw [e2] at this
        omega
      · omega
    have e := mg_stop (f := n) (T := T) (i := 0) hc n
    rw [Nat.zero_add] at e
    rw [e]
    refine ⟨h1, h2, h3, h3t, fun r p hr hp => ?_, h5⟩
    show mv_F T.1 r p = _
    rw [h4 r p hr hp]
    by_cases q : ks_F S r p ≤ n
    · rw [if_pos q, if_pos (by omega)]
    · by_cases q2 : ks_F S r p = n + 1
      · have := kv_1 h.V hr hp (by omega)
        rw [q2] at this
        omega
      · rw [if_neg q, if_neg (by omega)]
  · obtain ⟨k1, k2, k3, k4, k5⟩ := ke_p h.V (g := n + 1) (by omega) hH
    have hno : ∀ g, g < n → g + 1 < ks_ke S (n + 1) → cn_f (mv_F T.1) (g + 1) = 0 ∨ ms_same T.1 n g = false := fun g hg hgk => by
      by_cases w : cn_f (mv_F T.1) (g + 1) = 0
      · exact Or.inl w
      · refine Or.inr ?_
        rw [hsm g (by omega)]
        have e := k5 (g + 1) (by omega) hgk (hheld g hg w)
        cases hb : ks_same S (n + 1) (g + 1)
        · rfl
        · rw [ks_same_t (fun d hd => (ks_same_iff.mp hb d hd).symm)] at e
          cases e
    by_cases hk : ks_ke S (n + 1) = n + 1
    · rw [mg_keep (fun g hg => hno g hg (by omega))]
      refine ⟨h1, h2, h3, h3t, fun r p hr hp => ?_, h5⟩
      rw [h4 r p hr hp]
      by_cases q : ks_F S r p ≤ n
      · rw [if_pos q, if_pos (by omega)]
      · by_cases q2 : ks_F S r p = n + 1
        · rw [if_neg q, if_pos (by omega), q2, hk]
        · rw [if_neg q, if_neg (by omega)]
    · obtain ⟨g, hg⟩ : ∃ g, ks_ke S (n + 1) = g + 1 := ⟨ks_ke S (n + 1) - 1, by omega⟩
      have e1 : mg_i n T g = T := mg_keep (fun t ht => hno t (by omega) (by omega))
      have c1 : 0 < cn_f (mv_F T.1) (n + 1) := by
        have e := h.V.2.1 (n + 1) (by omega) (by omega)
        obtain ⟨r, p, hr, hp, w⟩ := cn_f_pos.mp (show 0 < cn_f (ks_F S) (n + 1) by omega)
        exact cn_f_pos.mpr ⟨r, p, hr, hp, (hkn r p hr hp).mpr w⟩
      have c2 : cn_f (mv_F T.1) (g + 1) ≠ 0 := by
        rw [hg] at k3
        have e := h.V.2.1 (g + 1) (by omega) (by omega)
        obtain ⟨r, p, hr, hp, w⟩ := cn_f_pos.mp (show 0 < cn_f (ks_F S) (g + 1) by omega)
        have := cn_f_pos.mpr ⟨r, p, hr, hp, show mv_F T.1 r p = g + 1 by
          rw [h4 r p hr hp, if_pos (by omega), w, ← hg, ke_ke h.V (fun _ => hH)]⟩
        omega
      have c3 : ms_same T.1 n g = true := by
        rw [hsm g (by omega)]
        rw [hg] at k4
        exact ks_same_t (fun d hd => (ks_same_iff.mp k4 d hd).symm)
      have e2 : mg_i n T (g + 1) = (ms_mh T.1 (n + 1) (g + 1), T.2 + 1) := by
        show mg_c n (mg_i n T g) g = _
        rw [e1]
        exact mg_t c1 c2 c3
      have hv : ∀ r p, r < 40 → p < 32 → mv_F (ms_mh T.1 (n + 1) (g + 1)) r p = if mv_F T.1 r p = n + 1 then g + 1 else mv_F T.1 r p := fun r p hr hp => mh_v (by omega) r p hr hp
      have hc : cn_f (mv_F (mg_i n T (g + 1)).1) (n + 1) = 0 := by
        rw [e2]
        show cn_f (mv_F (ms_mh T.1 (n + 1) (g + 1))) (n + 1) = 0
        by_cases w : 0 < cn_f (mv_F (ms_mh T.1 (n + 1) (g + 1))) (n + 1)
        · obtain ⟨r, p, hr, hp, e⟩ := cn_f_pos.mp w
          rw [hv r p hr hp] at e
          by_cases q : mv_F T.1 r p = n + 1
          · rw [if_pos q] at e
            omega
          · rw [if_neg q] at e
            exact absurd e q
        · omega
      have e3 := mg_stop hc (n - (g + 1))
      rw [show g + 1 + (n - (g + 1)) = n by omega, e2] at e3
      rw [e3]
      refine ⟨mv_mh h1 (by omega), h2, h3, h3t, fun r p hr hp => ?_, ?_⟩
      · show mv_F (ms_mh T.1 (n + 1) (g + 1)) r p = _
        rw [hv r p hr hp]
        by_cases q : ks_F S r p = n + 1
        · rw [if_pos ((hkn r p hr hp).mpr q), if_pos (by omega), q, hg]
        · rw [if_neg (fun w => q ((hkn r p hr hp).mp w)), h4 r p hr hp]
          by_cases q2 : ks_F S r p ≤ n
          · rw [if_pos q2, if_pos (by omega)]
          · rw [if_neg q2, if_neg (by omega)]
      · have h6 := mh_nz (M := T.1) (g := n + 1) (k := g + 1) (by omega) (by omega) (by omega) (Or.inr ⟨by omega, c2⟩)
        show _ = nz_f (cn_f (mv_F (ms_mh T.1 (n + 1) (g + 1)))) + (T.2 + 1)
        omega
theorem mg_all (h : rl S M) : ∀ n, n ≤ 200 → mgv_I S M n (mg_m M n)
  | 0, _ => ⟨h.O, rfl, rfl, rfl, fun r p hr hp => by
      show mv_F M r p = _
      rw [← h.F r p hr hp]
      by_cases e : ks_F S r p ≤ 0
      · rw [if_pos e, show ks_F S r p = 0 by omega, ke_0 h.V]
      · rw [if_neg e], (Nat.add_zero _).symm⟩
  | n + 1, hn => mg_step h (by omega) (mg_all h n (by omega))
theorem rl_merge {v b : Int32} (h : rl S M) (ho : qo_merge S v S') (hm : qm_merge M b M') : v = b ∧ rl S' M' := by
  obtain ⟨o, _, ho1, ho2⟩ := ho
  obtain ⟨hm1, hm2⟩ := hm
  rw [ho1, ho2, hm1, hm2]
  have hlt : ∀ f, f < 201 → ks_ke S f < 201 := fun f hf => ks_ke_lt h.V hf
  have hs : ∀ T r p, r < 40 → p < 32 → (kv_c T ∧ ks_P T = ks_P S ∧ ks_C T = ks_C S ∧ ∀ x y, x < 40 → y < 32 → (ks_F T x y = ks_F S x y ∨ ks_F T x y = ks_ke S (ks_F S x y))) → (kv_c (ks_mrg (ks_ke S) T r p).1 ∧ ks_P (ks_mrg (ks_ke S) T r p).1 = ks_P S ∧ ks_C (ks_mrg (ks_ke S) T r p).1 = ks_C S ∧ ∀ x y, x < 40 → y < 32 → (ks_F (ks_mrg (ks_ke S) T r p).1 x y = ks_F S x y ∨ ks_F (ks_mrg (ks_ke S) T r p).1 x y = ks_ke S (ks_F S x y))) ∧ (∀ x y, ks_F (ks_mrg (ks_ke S) T r p).1 x y = if x = r ∧ y = p then ks_ke S (ks_F T r p) else ks_F T x y) ∧ nz_f (ks_H T) = nz_f (ks_H (ks_mrg (ks_ke S) T r p).1) + (ks_mrg (ks_ke S) T r p).2 := by
    intro T r p hr hp hI
    obtain ⟨i1, i2, i3, i4⟩ := hI
    have hF := i1.1 r p hr hp
    have hSH : ∀ x y, x < 40 → y < 32 → ks_F S x y ≠ 0 → ks_H S (ks_F S x y) ≠ 0 := fun x y hx hy h0 => by
      have := kv_1 h.V hx hy h0
      omega
    have hkk : ks_ke S (ks_F T r p) = ks_ke S (ks_F S r p) := by
      rcases i4 r p hr hp with e | e
      · rw [e]
      · rw [e, ke_ke h.V (hSH r p hr hp)]
    have e1 : ∀ x y, ks_F (ks_mrg (ks_ke S) T r p).1 x y = if x = r ∧ y = p then ks_ke S (ks_F T r p) else ks_F T x y := fun x y => by
      show cn_u (ks_F T) r p (ks_ke S (ks_F T r p)) x y = _
      by_cases q : x = r ∧ y = p
      · rw [if_pos q, q.1, q.2, cn_u_s]
      · rw [if_neg q, cn_u_n q]
    refine ⟨⟨kv_pt i1 hr hp (hlt _ hF), i2, i3, fun x y hx hy => ?_⟩, e1, ?_⟩
    · rw [e1]
      by_cases q : x = r ∧ y = p
      · rw [if_pos q, hkk, q.1, q.2]
        exact Or.inr rfl
      · rw [if_neg q]
        exact i4 x y hx hy
    · refine kp_nz (H := ks_H T) (g := ks_ke S (ks_F T r p)) (f := ks_F T r p) (by omega) (fun hk0 => ?_) (fun h0 => kv_1 i1 hr hp h0)
      rw [hkk] at hk0 ⊢
      have z : ks_F S r p ≠ 0 := fun z => hk0 (by rw [z]; exact ke_0 h.V)
      have hf1 := h.V.1 r p hr hp
      obtain ⟨k1, k2, k3, _, _⟩ := ke_p h.V (g := ks_F S r p) (by omega) (hSH r p hr hp z)
      have e := h.V.2.1 (ks_ke S (ks_F S r p)) hk0 (by omega)
      obtain ⟨x, y, hx, hy, w⟩ := cn_f_pos.mp (show 0 < cn_f (ks_F S) (ks_ke S (ks_F S r p)) by omega)
      rw [i1.2.1 _ hk0 (by omega)]
      refine cn_f_pos.mpr ⟨x, y, hx, hy, ?_⟩
      rcases i4 x y hx hy with e | e
      · rw [e, w]
      · rw [e, w, ke_ke h.V (hSH r p hr hp)]
  obtain ⟨⟨k1, k2, k3, _⟩, k4, k5⟩ := ita_m (st := ks_mrg (ks_ke S)) (I := fun T => kv_c T ∧ ks_P T = ks_P S ∧ ks_C T = ks_C S ∧ ∀ x y, x < 40 → y < 32 → (ks_F T x y = ks_F S x y ∨ ks_F T x y = ks_ke S (ks_F S x y))) (f := ks_ke S) hs (T := ks_uK S o) h.hP ⟨h.V, rfl, rfl, fun x y _ _ => Or.inl rfl⟩ 40 (by omega)
  obtain ⟨m1, m2, m3, _, m4, m5⟩ := mg_all (h.st 0) 200 (by omega)
  have hr : rl (it_a (ks_mrg (ks_ke S)) (ks_uK S o) 40).1 (mg_m (ms_st M 0) 200).1 := by
    refine ⟨k1, m1, fun r hr => ?_, fun r p hr hp => ?_, fun f d hf hd => ?_, fun d hd => ?_⟩
    · rw [k2, m3]
      exact h.P r hr
    · have hF := h.V.1 r p hr hp
      rw [k4, m4 r p hr hp, if_pos (show ks_F S r p ≤ 200 by omega)]
      show (if r < 40 ∧ p + 1 < ks_P S r then ks_ke S (ks_F S r p) else ks_F S r p) = ks_ke S (ks_F S r p)
      by_cases q : p + 1 < ks_P S r
      · rw [if_pos ⟨hr, q⟩]
      · rw [if_neg (fun w => q w.2), h.F0 hr hp (by omega), ke_0 h.V]
    · rw [k3, m2]
      exact h.C f d hf hd
    · rw [k3]
      exact h.Z d hd
  refine ⟨?_, hr⟩
  have e1 := (h.st 0).nz
  have e2 := hr.nz
  have e3 : nz_f (ks_H (ks_uK S o)) = nz_f (ks_H S) := rfl
  exact congrArg nI (by omega)
/-! about -/
theorem df_eq {A : Nat → Nat} : ∀ {n : Nat}, (∀ p, p < n → A p ≤ 200) → ct_b (fun p => decide (A p ≠ 0) && (List.range p).all (fun j => decide (A j ≠ A p))) n = nz_f (pd_f A n)
  | 0, _ => by
    have : nz_f (pd_f A 0) = 0 := ct_b_ext (k := 0) (by omega) (fun i _ _ => decide_eq_false (fun w => absurd w (Nat.lt_irrefl 0)))
    rw [this]
    rfl
  | n + 1, hA => by
    have ih := df_eq (A := A) (n := n) (fun p hp => hA p (by omega))
    have hn := hA n (by omega)
    by_cases h0 : A n = 0
    · rw [ct_b_f (by show (decide (A n ≠ 0) && _) = false; rw [decide_eq_false (fun w => w h0)]; rfl), ih]
      exact nz_congr (fun f h1 _ => by rw [pd_s, if_neg (by omega), Nat.add_zero])
    · have hd := nz_down (h := pd_f A (n + 1)) (h' := pd_f A n) (f := A n) (by omega) hn (by rw [pd_s, if_pos rfl]; omega) (fun i hi => by rw [pd_s, if_neg (fun w => hi w.symm), Nat.add_zero])
      by_cases q : pd_f A n (A n) = 0
      · rw [if_pos q] at hd
        rw [ct_b_t (by
          show (decide (A n ≠ 0) && (List.range n).all (fun j => decide (A j ≠ A n))) = true
          rw [decide_eq_true h0, Bool.true_and, List.all_eq_true]
          intro j hj
          refine decide_eq_true (fun e => ?_)
          have := (ct_b_pos (q := fun i => decide (A i = A n)) (n := n)).mpr ⟨j, List.mem_range.mp hj, decide_eq_true e⟩
          unfold pd_f at q
          omega), ih, hd]
      · rw [if_neg q] at hd
        rw [ct_b_f (by
          show (decide (A n ≠ 0) && (List.range n).all (fun j => decide (A j ≠ A n))) = false
          obtain ⟨j, hj, e⟩ := pd_pos (show 0 < pd_f A n (A n) by omega)
          cases hb : (List.range n).all (fun j => decide (A j ≠ A n))
          · rw [Bool.and_false]
          · exact absurd e (of_decide_eq_true (List.all_eq_true.mp hb j (List.mem_range.mpr hj)))), ih, hd, Nat.add_zero]
theorem ct_s_only {g : Nat → Nat} {n k : Nat} (hk : k < n) : ct_s g n = g k ↔ ∀ i, i < n → i ≠ k → g i = 0 := by
  have e := ct_s_up (g := g) (h := fun i => if i = k then 0 else g i) (k := k) hk (fun i _ hi => if_neg hi)
  rw [if_pos rfl] at e
  have z := ct_s_zero (g := fun i => if i = k then 0 else g i) (n := n)
  constructor
  · intro w i hi hik
    have := z.mp (by omega) i hi
    rw [if_neg hik] at this
    exact this
  · intro w
    have := z.mpr (fun i hi => by
      show (if i = k then 0 else g i) = 0
      by_cases q : i = k
      · rw [if_pos q]
      · rw [if_neg q]
        exact w i hi q)
    omega
theorem ct_b_mono (q : Nat → Bool) {k : Nat} : ∀ {n : Nat}, k ≤ n → ct_b q k ≤ ct_b q n
  | 0, h => by
    rw [show k = 0 by omega]
    exact Nat.le_refl _
  | n + 1, h => by
    by_cases e : k = n + 1
    · rw [e]
      exact Nat.le_refl _
    · have h1 := ct_b_mono q (k := k) (n := n) (by omega)
      cases hq : q n
      · rw [ct_b_f hq]
        exact h1
      · rw [ct_b_t hq]
        omega
theorem ct_b_two {q : Nat → Bool} {n a b : Nat} (hab : a < b) (hb : b < n) (qa : q a = true) (qb : q b = true) : 1 < ct_b q n := by
  have h1 := ct_b_mono q (k := b + 1) (n := n) (by omega)
  rw [ct_b_t qb] at h1
  have h2 := ct_b_pos.mpr ⟨a, hab, qa⟩
  omega
theorem ct_b_one {q : Nat → Bool} : ∀ {n : Nat}, (∀ a b, a < n → b < n → q a = true → q b = true → a = b) → ct_b q n ≤ 1
  | 0, _ => Nat.zero_le _
  | n + 1, e => by
    cases hq : q n
    · rw [ct_b_f hq]
      exact ct_b_one (fun a b ha hb => e a b (by omega) (by omega))
    · rw [ct_b_t hq, ct_b_ext (k := 0) (by omega) (fun i _ hi => by
        cases hi2 : q i
        · rfl
        · have := e i n (by omega) (by omega) hi2 hq
          omega)]
      exact Nat.le_refl _
theorem rl_mo (h : rl S M) {r g : Nat} (hr : r < 40) (h0 : ks_P S r ≠ 0) (hg : g ≠ 0) : mo_n M r g = cn_r (mv_F M r) g := by
  have hB : ms_B M r ≠ 0 := fun e => h0 ((h.B hr).mpr e)
  rw [mv_r1 hB (h.O.2.1 r hr) hg]
  exact ct_b_congr (fun p hp => by rw [mv_F1 hB hp])
/-- a page of a frame that is there -/
theorem rl_pos (h : rl S M) {r g : Nat} (hr : r < 40) (hg : g ≠ 0) : 0 < cn_r (mv_F M r) g ↔ ∃ p, (r < 40 ∧ p + 1 < ks_P S r) ∧ ks_F S r p = g := by
  have h33 := h.hP r hr
  rw [cn_r_pos]
  constructor
  · rintro ⟨p, hp, e⟩
    rw [← h.F r p hr hp] at e
    refine ⟨p, ⟨hr, ?_⟩, e⟩
    by_cases q : p + 1 < ks_P S r
    · exact q
    · rw [h.F0 hr hp (by omega)] at e
      exact absurd e.symm hg
  · rintro ⟨p, hp, e⟩
    exact ⟨p, by omega, by rw [← h.F r p hr (by omega)]; exact e⟩
theorem su_c_congr {g g' : Nat → Int32} : ∀ {n : Nat}, (∀ i, i < n → g i = g' i) → su_c g n = su_c g' n
  | 0, _ => rfl
  | n + 1, e => by
    show su_c g n + g n = su_c g' n + g' n
    rw [su_c_congr (fun i hi => e i (by omega)), e n (by omega)]
theorem su_r_congr {g g' : Nat → Nat → Int32} : ∀ {n : Nat}, (∀ i, i < n → ∀ d, d < 8 → g i d = g' i d) → su_r g n = su_r g' n
  | 0, _ => rfl
  | n + 1, e => by
    show su_r g n + su_c (g n) 8 = su_r g' n + su_c (g' n) 8
    rw [su_r_congr (fun i hi => e i (by omega)), su_c_congr (e n (by omega))]
theorem rl_ow (h : rl S M) {o : Nat → Int32} (ho : ∀ f, f < 201 → ow_ok (ks_F S) (fun a b => a < 40 ∧ b + 1 < ks_P S a) f (o f)) {g : Nat} (hg0 : g ≠ 0) (hg : g < 201) : (∀ j, j < 40 → (o g = nI j ↔ 0 < cn_r (mv_F M j) g ∧ cn_r (mv_F M j) g = cn_f (mv_F M) g)) ∧ (o g = -2 ↔ 1 < ct_b (fun r => decide (0 < cn_r (mv_F M r) g)) 40) := by
  have hm1 : ∀ a, a < 40 → nI a ≠ -1 := fun a ha => ow_nI1 ha
  have hm2 : ∀ a, a < 40 → nI a ≠ -2 := fun a ha e => by
    have h1 : ¬ nI a < 0 := nI_pos (by omega)
    rw [e] at h1
    exact h1 (by decide)
  have honly : ∀ j, j < 40 → (cn_r (mv_F M j) g = cn_f (mv_F M) g ↔ ∀ i, i < 40 → i ≠ j → cn_r (mv_F M i) g = 0) := fun j hj => by
    rw [← ct_s_only (g := fun r => cn_r (mv_F M r) g) hj]
    exact ⟨fun w => w.symm, fun w => w.symm⟩
  rcases ho g hg with ⟨e, hno⟩ | ⟨a, b, ha, e, hz, hf, hu⟩ | ⟨e, a, b, a', b', hz, hf, hz', hf', hne⟩
  · have hz : ∀ r, r < 40 → ¬ 0 < cn_r (mv_F M r) g := fun r hr w => by
      obtain ⟨p, hp, e2⟩ := (rl_pos h hr hg0).mp w
      exact hno r p hp e2
    refine ⟨fun j hj => ⟨fun w => absurd (w.symm.trans e) (hm1 j hj), fun w => absurd w.1 (hz j hj)⟩, ⟨fun w => absurd (e.symm.trans w) (by decide), fun w => ?_⟩⟩
    have := ct_b_one (q := fun r => decide (0 < cn_r (mv_F M r) g)) (n := 40) (fun a b ha _ qa _ => absurd (of_decide_eq_true qa) (hz a ha))
    omega
  · have hpa : 0 < cn_r (mv_F M a) g := (rl_pos h ha hg0).mpr ⟨b, hz, hf⟩
    have hoth : ∀ i, i < 40 → 0 < cn_r (mv_F M i) g → i = a := fun i hi w => by
      obtain ⟨p, hp, e2⟩ := (rl_pos h hi hg0).mp w
      exact hu i p hp e2
    refine ⟨fun j hj => ⟨fun w => ?_, fun w => ?_⟩, ⟨fun w => absurd (e.symm.trans w) (hm2 a ha), fun w => ?_⟩⟩
    · obtain rfl : a = j := (nI_eq (by omega) (by omega)).mp (e.symm.trans w)
      refine ⟨hpa, (honly a ha).mpr (fun i hi hia => ?_)⟩
      by_cases q : 0 < cn_r (mv_F M i) g
      · exact absurd (hoth i hi q) hia
      · omega
    · rw [e, hoth j hj w.1]
    · have := ct_b_one (q := fun r => decide (0 < cn_r (mv_F M r) g)) (n := 40) (fun a b ha hb qa qb => (hoth a ha (of_decide_eq_true qa)).trans (hoth b hb (of_decide_eq_true qb)).symm)
      omega
  · have hpa : 0 < cn_r (mv_F M a) g := (rl_pos h hz.1 hg0).mpr ⟨b, hz, hf⟩
    have hpb : 0 < cn_r (mv_F M a') g := (rl_pos h hz'.1 hg0).mpr ⟨b', hz', hf'⟩
    refine ⟨fun j hj => ⟨fun w => absurd (w.symm.trans e) (hm2 j hj), fun w => ?_⟩, ⟨fun _ => ?_, fun _ => e⟩⟩
    · exfalso
      have hw := (honly j hj).mp w.2
      by_cases q : a = j
      · have := hw a' hz'.1 (fun z => hne (q.trans z.symm))
        omega
      · have := hw a hz.1 q
        omega
    · by_cases q : a < a'
      · exact ct_b_two q hz'.1 (decide_eq_true hpa) (decide_eq_true hpb)
      · exact ct_b_two (show a' < a by omega) hz.1 (decide_eq_true hpb) (decide_eq_true hpa)
theorem rl_uO (h : rl S M) (o : Nat → Int32) : rl (ks_uO S o) M := h
theorem nI_ij {i j : Nat} (hi : i < 2 ^ 31) (hj : j < 2 ^ 31) (hne : i ≠ j) (h : nI i = nI j) : False := hne ((nI_eq hi hj).mp h)
theorem rl_about_o {x y v b : Int32} (h : rl S M) (ho : qo_about S x y v S') (hm : qm_about M x y b M') : ms_t M' = 0 ∧ v = b ∧ rl S' M' := by
  obtain ⟨j, k, hj, rfl, hk, ho⟩ := ho
  have h33 := h.hP j hj
  have hP1 := h.P1 hj (by omega)
  have hPk : ms_P M j = k := by omega
  have hFp : ∀ p, p < k → ks_F S j p = ms_F M (32 * j + p) := fun p hp => h.Fp hj (by omega)
  rcases hm with ⟨hno, _⟩ | ⟨i, hi, hm⟩
  · exact absurd (h.row hj rfl (by omega)) (hno j)
  · have e9 := mo_row1 hi hj rfl
    subst e9
    have hout : ∀ n, n < 5 → ((nI n).toInt < 0 ∨ 5 ≤ (nI n).toInt) → False := fun n hn w => by
      rw [nI_toInt (by omega)] at w
      omega
    have hx : ∀ {n n' : Nat}, n < 5 → n' < 5 → n ≠ n' → nI n = nI n' → False := fun h1 h2 h3 e => nI_ij (by omega) (by omega) h3 e
    rcases ho with ⟨rfl, rfl, rfl⟩ | ⟨rfl, rfl, rfl⟩ | ⟨rfl, rfl, rfl⟩ | ⟨rfl, o, rfl, rfl, how⟩ | ⟨rfl, rfl, rfl⟩
    · rcases hm with ⟨_, rfl, rfl⟩ | ⟨w, _⟩ | ⟨w, _⟩ | ⟨w, _⟩ | ⟨w, _⟩ | ⟨w, _⟩
      · exact ⟨rfl, by rw [hPk], h⟩
      all_goals first | exact (hx (by omega) (by omega) (by omega) w).elim | exact (hout _ (by omega) w).elim
    · rcases hm with ⟨w, _⟩ | ⟨_, rfl, rfl⟩ | ⟨w, _⟩ | ⟨w, _⟩ | ⟨w, _⟩ | ⟨w, _⟩
      · exact (hx (by omega) (by omega) (by omega) w).elim
      · refine ⟨rfl, congrArg nI ?_, h⟩
        show _ = ct_b (fun p => decide (ms_F M (32 * i + p) = 0)) (ms_P M i)
        rw [hPk]
        exact ct_b_congr (fun p hp => by rw [hFp p hp])
      all_goals first | exact (hx (by omega) (by omega) (by omega) w).elim | exact (hout _ (by omega) w).elim
    · rcases hm with ⟨w, _⟩ | ⟨w, _⟩ | ⟨_, rfl, rfl⟩ | ⟨w, _⟩ | ⟨w, _⟩ | ⟨w, _⟩
      · exact (hx (by omega) (by omega) (by omega) w).elim
      · exact (hx (by omega) (by omega) (by omega) w).elim
      · refine ⟨rfl, congrArg nI ?_, h⟩
        have e1 := df_eq (A := ks_F S' i) (n := k) (fun p hp => by have := h.V.1 i p hj (by omega); omega)
        refine Eq.trans e1 ?_
        refine nz_congr (fun f h1 h2 => ?_)
        have e2 : pd_f (ks_F S' i) k f = mo_n M i f := by
          show _ = ct_b (fun p => decide (ms_F M (32 * i + p) = f)) (ms_P M i)
          rw [hPk]
          exact ct_b_congr (fun p hp => by rw [hFp p hp])
        rw [e2]
        exact Iff.rfl
      all_goals first | exact (hx (by omega) (by omega) (by omega) w).elim | exact (hout _ (by omega) w).elim
    · rcases hm with ⟨w, _⟩ | ⟨w, _⟩ | ⟨w, _⟩ | ⟨_, rfl, rfl⟩ | ⟨w, _⟩ | ⟨w, _⟩
      · exact (hx (by omega) (by omega) (by omega) w).elim
      · exact (hx (by omega) (by omega) (by omega) w).elim
      · exact (hx (by omega) (by omega) (by omega) w).elim
      · refine ⟨rfl, congrArg nI (ct_b_congr (fun f hf => ?_)), h⟩
        have e1 := (rl_ow h how (g := f + 1) (by omega) (by omega)).1 i hj
        have e2 : mo_n (ms_st M 0) i (f + 1) = cn_r (mv_F M i) (f + 1) := rl_mo h hj (by omega) (by omega)
        rw [e2]
        refine Bool.eq_iff_iff.mpr ?_
        rw [Bool.and_eq_true, decide_eq_true_iff, decide_eq_true_iff, decide_eq_true_iff]
        exact e1
      all_goals first | exact (hx (by omega) (by omega) (by omega) w).elim | exact (hout _ (by omega) w).elim
    · rcases hm with ⟨w, _⟩ | ⟨w, _⟩ | ⟨w, _⟩ | ⟨w, _⟩ | ⟨_, rfl, rfl⟩ | ⟨w, _⟩
      · exact (hx (by omega) (by omega) (by omega) w).elim
      · exact (hx (by omega) (by omega) (by omega) w).elim
      · exact (hx (by omega) (by omega) (by omega) w).elim
      · exact (hx (by omega) (by omega) (by omega) w).elim
      · refine ⟨rfl, ?_, h⟩
        rw [hPk]
        refine su_r_congr (fun p hp d hd => ?_)
        have hF := h.V.1 i p hj (by omega)
        show ks_C S' (ks_F S' i p) d = ms_c M (ms_F M (32 * i + p)) d
        rw [← hFp p hp]
        exact h.c (by omega) hd
      · exact (hout _ (by omega) w).elim
theorem rl_about_x {x y b : Int32} {E : String} (h : rl S M) (ho : qx_about S x y E) (hm : qm_about M x y b M') : ((E = kx_nse ∧ ms_t M' = 1) ∨ (E = kx_iae ∧ ms_t M' = 2)) ∧ rl S M' := by
  rcases ho with ⟨rfl, hc⟩ | ⟨rfl, hc, hy⟩
  · rcases hm with ⟨_, _, rfl⟩ | ⟨i, hi, _⟩
    · exact ⟨Or.inl ⟨rfl, rfl⟩, h⟩
    · exact absurd hi (h.norow hc i)
  · rcases hm with ⟨hno, _⟩ | ⟨i, hi, hm⟩
    · obtain ⟨j, hj⟩ := h.rowT hc
      exact absurd hj (hno j)
    · have hout : ∀ n, n < 5 → y = nI n → False := fun n hn w => by
        rw [w, nI_toInt (by omega)] at hy
        omega
      rcases hm with ⟨w, _⟩ | ⟨w, _⟩ | ⟨w, _⟩ | ⟨w, _⟩ | ⟨w, _⟩ | ⟨_, _, rfl⟩
      · exact (hout _ (by omega) w).elim
      · exact (hout _ (by omega) w).elim
      · exact (hout _ (by omega) w).elim
      · exact (hout _ (by omega) w).elim
      · exact (hout _ (by omega) w).elim
      · exact ⟨Or.inr ⟨rfl, rfl⟩, h⟩
theorem rl_count {x v b : Int32} (h : rl S M) (ho : qo_count S x v S') (hm : qm_count M x b M') : v = b ∧ rl S' M' := by
  have hout : ∀ n, n < 4 → ((nI n).toInt < 0 ∨ 4 ≤ (nI n).toInt) → False := fun n hn w => by
    rw [nI_toInt (by omega)] at w
    omega
  have hx : ∀ {n n' : Nat}, n < 4 → n' < 4 → n ≠ n' → nI n = nI n' → False := fun h1 h2 h3 e => nI_ij (by omega) (by omega) h3 e
  rcases ho with ⟨rfl, rfl, rfl⟩ | ⟨rfl, rfl, rfl⟩ | ⟨rfl, rfl, rfl⟩ | ⟨rfl, o, rfl, rfl, how⟩ | ⟨hw, rfl, rfl⟩
  · rcases hm with ⟨_, rfl, rfl⟩ | ⟨w, _⟩ | ⟨w, _⟩ | ⟨w, _⟩ | ⟨w, _⟩
    · refine ⟨congrArg nI (ct_b_congr (fun r hr => ?_)), h⟩
      refine Bool.eq_iff_iff.mpr ?_
      rw [decide_eq_true_iff, decide_eq_true_iff]
      exact not_congr (h.B hr)
    all_goals first | exact (hx (by omega) (by omega) (by omega) w).elim | exact (hout _ (by omega) w).elim
  · rcases hm with ⟨w, _⟩ | ⟨_, rfl, rfl⟩ | ⟨w, _⟩ | ⟨w, _⟩ | ⟨w, _⟩
    · exact (hx (by omega) (by omega) (by omega) w).elim
    · refine ⟨congrArg nI (ct_s_congr (fun r hr => ?_)), h⟩
      show ks_P S' r - 1 = if ms_B M r = 0 then 0 else ms_P M r
      rw [h.P r hr]
      unfold mv_P
      split <;> rfl
    all_goals first | exact (hx (by omega) (by omega) (by omega) w).elim | exact (hout _ (by omega) w).elim
  · rcases hm with ⟨w, _⟩ | ⟨w, _⟩ | ⟨_, rfl, rfl⟩ | ⟨w, _⟩ | ⟨w, _⟩
    · exact (hx (by omega) (by omega) (by omega) w).elim
    · exact (hx (by omega) (by omega) (by omega) w).elim
    · exact ⟨congrArg nI (h.st 0).nz, h⟩
    all_goals first | exact (hx (by omega) (by omega) (by omega) w).elim | exact (hout _ (by omega) w).elim
  · rcases hm with ⟨w, _⟩ | ⟨w, _⟩ | ⟨w, _⟩ | ⟨_, rfl, rfl⟩ | ⟨w, _⟩
    · exact (hx (by omega) (by omega) (by omega) w).elim
    · exact (hx (by omega) (by omega) (by omega) w).elim
    · exact (hx (by omega) (by omega) (by omega) w).elim
    · refine ⟨congrArg nI (ct_b_congr (fun f hf => ?_)), h⟩
      have e1 := (rl_ow h how (g := f + 1) (by omega) (by omega)).2
      refine Bool.eq_iff_iff.mpr ?_
      rw [decide_eq_true_iff, decide_eq_true_iff, e1]
      have e2 : ct_b (fun r => decide (ms_B (ms_st M 0) r ≠ 0) && decide (0 < mo_n (ms_st M 0) r (f + 1))) 40 = ct_b (fun r => decide (0 < cn_r (mv_F M r) (f + 1))) 40 := by
        refine ct_b_congr (fun r hr => ?_)
        show (decide (ms_B M r ≠ 0) && decide (0 < mo_n M r (f + 1))) = _
        by_cases q : ms_B M r = 0
        · rw [decide_eq_false (fun w => w q), mv_r0 q (by omega)]
          rfl
        · rw [decide_eq_true q, Bool.true_and, rl_mo h hr (fun e => q ((h.B hr).mp e)) (by omega)]
      rw [e2]
    · exact (hout _ (by omega) w).elim
  · rcases hm with ⟨rfl, _⟩ | ⟨rfl, _⟩ | ⟨rfl, _⟩ | ⟨rfl, _⟩ | ⟨_, rfl, rfl⟩
    · exact (hout _ (by omega) hw).elim
    · exact (hout _ (by omega) hw).elim
    · exact (hout _ (by omega) hw).elim
    · exact (hout _ (by omega) hw).elim
    · exact ⟨rfl, h⟩
end RL4
