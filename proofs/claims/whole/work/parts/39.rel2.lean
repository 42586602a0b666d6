/-! drop, size, blank, own, write, read, common, holders, lay in step -/
section RL2
variable {S S' : ks_T} {M M' : ms_T}
theorem rl_diff {w : Nat} (h : rl S M) (h' : rl S' M') (e : nz_f (ks_H S) = nz_f (ks_H S') + w) : nI w = nI (nz_f (cn_f (mv_F M))) - nI (nz_f (cn_f (mv_F M'))) := by
  rw [h.nz, h'.nz] at e
  rw [e, pk_sub (by omega), Nat.add_sub_cancel_left]
theorem bf_C (S : ks_T) (r a : Nat) : ∀ n, ks_C (ks_bf S r a n) = ks_C S
  | 0 => rfl
  | n + 1 => bf_C S r a n
theorem bf_F (S : ks_T) (r a : Nat) : ∀ n x y, ks_F (ks_bf S r a n) x y = if x = r ∧ a ≤ y ∧ y < a + n then 0 else ks_F S x y
  | 0, x, y => by
    rw [if_neg (by omega)]
    rfl
  | n + 1, x, y => by
    show cn_u (ks_F (ks_bf S r a n)) r (a + n) 0 x y = _
    by_cases e : x = r ∧ y = a + n
    · rw [e.1, e.2, cn_u_s, if_pos ⟨rfl, by omega, by omega⟩]
    · rw [cn_u_n e, bf_F S r a n]
      by_cases q : x = r ∧ a ≤ y ∧ y < a + n
      · rw [if_pos q, if_pos ⟨q.1, q.2.1, by omega⟩]
      · rw [if_neg q, if_neg (fun w => q ⟨w.1, w.2.1, by omega⟩)]
theorem bf_nz {S : ks_T} (hV : kv_c S) {r a : Nat} (hr : r < 40) : ∀ n, a + n ≤ 32 → nz_f (ks_H S) = nz_f (ks_H (ks_bf S r a n)) + kb_w S r a n
  | 0, _ => (Nat.add_zero _).symm
  | n + 1, hn => by
    have h1 := bf_nz hV (a := a) hr n (by omega)
    have hV1 := kv_bf hV (a := a) hr n (by omega)
    have h2 := hV1.1 r (a + n) hr (by omega)
    have h3 := kp_nzl (H := ks_H (ks_bf S r a n)) (f := ks_F (ks_bf S r a n) r (a + n)) (by omega) (fun h0 => kv_1 hV1 hr (by omega) h0)
    show _ = nz_f (kp_l (ks_H (ks_bf S r a n)) (ks_F (ks_bf S r a n) r (a + n))) + (kb_w S r a n + kp_w (ks_H (ks_bf S r a n)) (ks_F (ks_bf S r a n) r (a + n)))
    omega
theorem rl_drop_o {x v b : Int32} (h : rl S M) (ho : qo_drop S x v S') (hm : qm_drop M x b M') : ms_t M' = 0 ∧ v = b ∧ rl S' M' := by
  obtain ⟨j, k, hj, rfl, hk, rfl, rfl⟩ := ho
  have h33 := h.hP j hj
  rcases hm with ⟨hno, _⟩ | ⟨i, hi, rfl, rfl⟩
  · exact absurd (h.row hj rfl (by omega)) (hno j)
  · obtain rfl := mo_row1 hi hj rfl
    have hr : rl (ks_sP (ks_bf S i 0 (k - 0)) i 0) (ms_sB (ms_st M 0) i 0) := by
      have eP : ∀ t, mv_P (ms_sB (ms_st M 0) i 0) t = if t = i then 0 else mv_P M t := fun t => by
        unfold mv_P
        show (if ks_uN (ms_B M) i 0 t = 0 then 0 else ms_P M t + 1) = _
        unfold ks_uN
        by_cases e : t = i
        · rw [if_pos e, if_pos e, if_pos rfl]
        · rw [if_neg e, if_neg e]
      have hkv : kv_c (ks_bf S i 0 (k - 0)) := kv_bf h.V hj (k - 0) (by omega)
      refine ⟨hkv, ⟨fun t ht => ?_, h.O.2⟩, fun t ht => ?_, fun t p ht hp => ?_, fun f d hf hd => ?_, fun d hd => ?_⟩
      · show ks_uN (ms_B M) i 0 t ≤ 1
        unfold ks_uN
        split
        · omega
        · exact h.O.1 t ht
      · rw [eP]
        show ks_uN (ks_P (ks_bf S i 0 (k - 0))) i 0 t = _
        unfold ks_uN
        rw [ks_bf_P, h.P t ht]
      · show ks_F (ks_bf S i 0 (k - 0)) t p = _
        unfold mv_F
        rw [bf_F, eP]
        by_cases e : t = i
        · rw [if_pos e, if_neg (show ¬ p + 1 < 0 by omega)]
          by_cases q : p < k
          · rw [if_pos (show t = i ∧ 0 ≤ p ∧ p < 0 + (k - 0) by omega)]
          · rw [if_neg (show ¬ (t = i ∧ 0 ≤ p ∧ p < 0 + (k - 0)) by omega), e, h.F0 hj hp (by omega)]
        · rw [if_neg e, if_neg (fun w => e w.1)]
          exact h.F t p ht hp
      · show _ = ks_C (ks_bf S i 0 (k - 0)) (f + 1) d
        rw [bf_C]
        exact h.C f d hf hd
      · show ks_C (ks_bf S i 0 (k - 0)) 0 d = 0
        rw [bf_C]
        exact h.Z d hd
    exact ⟨rfl, rl_diff (h.st 0) hr (bf_nz h.V hj (k - 0) (by omega)), hr⟩
theorem rl_drop_x {x b : Int32} {E : String} (h : rl S M) (ho : qx_drop S x E) (hm : qm_drop M x b M') : (E = kx_nse ∧ ms_t M' = 1) ∧ rl S M' := by
  obtain ⟨rfl, hc⟩ := ho
  rcases hm with ⟨_, _, rfl⟩ | ⟨i, hi, _⟩
  · exact ⟨⟨rfl, rfl⟩, h⟩
  · exact absurd hi (h.norow hc i)
theorem rl_size_o {x y v b : Int32} (h : rl S M) (ho : qo_size S x y v S') (hm : qm_size M x y b M') : ms_t M' = 0 ∧ v = b ∧ rl S' M' := by
  obtain ⟨j, k, n, hj, rfl, hk, hn, rfl, rfl, rfl⟩ := ho
  have h33 := h.hP j hj
  rcases hm with ⟨hno, _⟩ | ⟨i, hi, hm⟩
  · exact absurd (h.row hj rfl (by omega)) (hno j)
  · have e9 := mo_row1 hi hj rfl
    subst e9
    rcases hm with ⟨hc, _⟩ | ⟨n', hn', en, rfl, rfl⟩
    · rw [ks_cnt_I hn] at hc
      cases hc
    · obtain rfl : n = n' := (nI_eq (by omega) (by omega)).mp en
      have hP1 := h.P1 hj (by omega)
      have hPk : ms_P M i = k := by omega
      have hB := hi.2.2
      refine ⟨rfl, by rw [hPk], kv_bf h.V hj (k - n) (by omega), ⟨h.O.1, fun t ht => ?_, fun t ht => ?_⟩, fun t ht => ?_, fun t p ht hp => ?_, fun f d hf hd => ?_, fun d hd => ?_⟩
      · show ks_uN (ms_P M) i n t ≤ 32
        unfold ks_uN
        split
        · exact hn
        · exact h.O.2.1 t ht
      · show mf_w (ms_F M) (32 * i + ms_P M i) (fun _ => 0) (n - ms_P M i) t ≤ 200
        unfold mf_w
        split
        · exact Nat.zero_le _
        · exact h.O.2.2 t ht
      · show ks_uN (ks_P (ks_bf S i n (k - n))) i (n + 1) t = (if ms_B M t = 0 then 0 else ks_uN (ms_P M) i n t + 1)
        unfold ks_uN
        rw [ks_bf_P]
        by_cases e : t = i
        · rw [if_pos e, if_pos e, e, if_neg hB]
        · rw [if_neg e, if_neg e]
          exact h.P t ht
      · show ks_F (ks_bf S i n (k - n)) t p = (if p + 1 < (if ms_B M t = 0 then 0 else ks_uN (ms_P M) i n t + 1) then mf_w (ms_F M) (32 * i + ms_P M i) (fun _ => 0) (n - ms_P M i) (32 * t + p) else 0)
        rw [bf_F, hPk]
        by_cases e : t = i
        · have e2 : ks_uN (ms_P M) i n t = n := if_pos e
          rw [e2, e, if_neg hB]
          by_cases q : p < n
          · rw [if_pos (show p + 1 < n + 1 by omega), if_neg (by omega)]
            by_cases q2 : p < k
            · rw [mf_out _ _ (by omega)]
              exact h.Fp hj (by omega)
            · rw [show 32 * i + p = 32 * i + k + (p - k) by omega, mf_in _ _ (by omega), h.F0 hj hp (by omega)]
          · rw [if_neg (show ¬ p + 1 < n + 1 by omega)]
            by_cases q2 : p < k
            · rw [if_pos ⟨rfl, by omega, by omega⟩]
            · rw [if_neg (by omega), h.F0 hj hp (by omega)]
        · have e2 : ks_uN (ms_P M) i n t = ms_P M t := if_neg e
          rw [e2, if_neg (fun w => e w.1), mf_out _ _ (by omega)]
          exact h.F t p ht hp
      · show _ = ks_C (ks_bf S i n (k - n)) (f + 1) d
        rw [bf_C]
        exact h.C f d hf hd
      · show ks_C (ks_bf S i n (k - n)) 0 d = 0
        rw [bf_C]
        exact h.Z d hd
theorem rl_size_x {x y b : Int32} {E : String} (h : rl S M) (ho : qx_size S x y E) (hm : qm_size M x y b M') : ((E = kx_nse ∧ ms_t M' = 1) ∨ (E = kx_iae ∧ ms_t M' = 2)) ∧ rl S M' := by
  rcases ho with ⟨rfl, hc⟩ | ⟨rfl, hc, hn⟩
  · rcases hm with ⟨_, _, rfl⟩ | ⟨i, hi, _⟩
    · exact ⟨Or.inl ⟨rfl, rfl⟩, h⟩
    · exact absurd hi (h.norow hc i)
  · rcases hm with ⟨hno, _⟩ | ⟨i, hi, hm⟩
    · obtain ⟨j, hj⟩ := h.rowT hc
      exact absurd hj (hno j)
    · rcases hm with ⟨_, _, rfl⟩ | ⟨n', hn', rfl, _⟩
      · exact ⟨Or.inr ⟨rfl, rfl⟩, h⟩
      · rw [ks_cnt_I hn'] at hn
        cases hn
theorem sF_F {j a g : Nat} (hB : ms_B M j ≠ 0) (ha : a < ms_P M j) (ha2 : a < 32) (t p : Nat) (hp : p < 32) : mv_F (ms_sF M (32 * j + a) g) t p = cn_u (mv_F M) j a g t p := by
  show (if p + 1 < mv_P M t then ks_uN (ms_F M) (32 * j + a) g (32 * t + p) else 0) = _
  by_cases e : t = j ∧ p = a
  · rw [e.1, e.2, cn_u_s, mv_P1 hB, if_pos (by omega)]
    exact if_pos rfl
  · rw [cn_u_n e]
    have e2 : ks_uN (ms_F M) (32 * j + a) g (32 * t + p) = ms_F M (32 * t + p) := if_neg (fun w => e (by omega))
    rw [e2]
    rfl
theorem sF_ok (hO : mv_ok M) {i g : Nat} (hg : g ≤ 200) : mv_ok (ms_sF M i g) := ⟨hO.1, hO.2.1, fun t ht => by
  show ks_uN (ms_F M) i g t ≤ 200
  unfold ks_uN
  split
  · exact hg
  · exact hO.2.2 t ht⟩
theorem rl_pt (h : rl S M) {j a g : Nat} (hj : j < 40) (ha : a + 1 < ks_P S j) (hg : g ≤ 200) : rl (ks_pt S j a g) (ms_sF M (32 * j + a) g) := by
  have h33 := h.hP j hj
  have h1 := h.P1 hj (by omega)
  refine ⟨kv_pt h.V hj (by omega) (by omega), sF_ok h.O hg, h.P, fun t p ht hp => ?_, h.C, h.Z⟩
  rw [sF_F (fun e => absurd ((h.B hj).mpr e) (by omega)) (by omega) (by omega) t p hp, pt_F]
  unfold cn_u
  rw [h.F t p ht hp]
theorem rl_blank_o {x y v b : Int32} (h : rl S M) (ho : qo_blank S x y v S') (hm : qm_blank M x y b M') : ms_t M' = 0 ∧ v = b ∧ rl S' M' := by
  obtain ⟨j, q, hj, rfl, rfl, hq, hq2, rfl, rfl⟩ := ho
  rcases hm with ⟨hno, _⟩ | ⟨i, a, hp, rfl, rfl⟩
  · exact absurd (h.page hj rfl rfl hq) (hno j q)
  · obtain ⟨rfl, rfl⟩ := mo_pg1 h.O hp hj rfl hq2 rfl
    refine ⟨rfl, ?_, rl_pt (h.st 0) hj hq (by omega)⟩
    rw [h.Fp hj hq]
    show _ = (if ms_F M (32 * i + a) = 0 then nI 0 else nI 1)
    split <;> rfl
theorem rl_blank_x {x y b : Int32} {E : String} (h : rl S M) (ho : qx_blank S x y E) (hm : qm_blank M x y b M') : (E = kx_nse ∧ ms_t M' = 1) ∧ rl S M' := by
  obtain ⟨rfl, hc⟩ := ho
  rcases hm with ⟨_, _, rfl⟩ | ⟨i, a, hi, _⟩
  · exact ⟨⟨rfl, rfl⟩, h⟩
  · exact absurd hi (h.nopage hc i a)
theorem rl.al (h : rl S M) {j a : Nat} (hj : j < 40) (ha : a + 1 < ks_P S j) : ks_H S (ks_F S j a) = 1 ↔ ms_al M (ms_F M (32 * j + a)) := by
  have h33 := h.hP j hj
  have hF := h.V.1 j a hj (by omega)
  rw [← h.Fp hj ha]
  unfold ms_al
  by_cases e : ks_F S j a = 0
  · rw [e, h.V.2.2]
    exact ⟨fun w => by omega, fun w => absurd rfl w.1⟩
  · rw [h.H e (by omega)]
    exact ⟨fun w => ⟨e, w⟩, fun w => w.2⟩
theorem rl.nof (h : rl S M) : (∀ i, 1 ≤ i → i < 201 → ks_H S i ≠ 0) ↔ ∀ f, f < 200 → cn_f (mv_F M) (f + 1) ≠ 0 := by
  constructor
  · intro w f hf
    rw [← h.H (by omega) (by omega)]
    exact w (f + 1) (by omega) (by omega)
  · intro w i h1 h2
    rw [h.H (by omega) (by omega), show i = i - 1 + 1 by omega]
    exact w (i - 1) (by omega)
theorem rl.free (h : rl S M) {f i : Nat} (h1 : 1 ≤ f) (h2 : f < 201) (h0 : ks_H S f = 0) (hm : ∀ t, 1 ≤ t → t < f → ks_H S t ≠ 0) (hi : i < 200) (hi0 : cn_f (mv_F M) (i + 1) = 0) (hin : ∀ t, t < i → cn_f (mv_F M) (t + 1) ≠ 0) : f = i + 1 := by
  by_cases a : f < i + 1
  · have e := hin (f - 1) (by omega)
    rw [show f - 1 + 1 = f by omega, ← h.H (by omega) (by omega)] at e
    exact absurd h0 e
  · by_cases b : i + 1 < f
    · have e := hm (i + 1) (by omega) b
      rw [h.H (by omega) (by omega)] at e
      exact absurd hi0 e
    · omega
theorem rl_sC (h : rl S M) {f k : Nat} (hk : k < 8) (v : Int32) : rl (ks_sC S (f + 1) k v) (ms_sC M (8 * f + k) v) := by
  refine ⟨h.V, h.O, h.P, h.F, fun g d hg hd => ?_, fun d hd => ?_⟩
  · show upd (ms_C M) (8 * f + k) v (8 * g + d) = (if g + 1 = f + 1 ∧ d = k then v else ks_C S (g + 1) d)
    unfold upd
    by_cases e : g = f ∧ d = k
    · rw [if_pos (by omega), if_pos (by omega)]
    · rw [if_neg (by omega), if_neg (by omega)]
      exact h.C g d hg hd
  · show (if 0 = f + 1 ∧ d = k then v else ks_C S 0 d) = 0
    rw [if_neg (by omega)]
    exact h.Z d hd
theorem rl_nf (h : rl S M) {j a f : Nat} (hj : j < 40) (ha : a + 1 < ks_P S j) (hf : f < 200) : rl (ks_pt (ks_cp S (ks_F S j a) (f + 1)) j a (f + 1)) (ms_nf M (32 * j + a) f) := by
  have h33 := h.hP j hj
  have hF := h.V.1 j a hj (by omega)
  have hc : rl (ks_cp S (ks_F S j a) (f + 1)) (ms_uC M (mf_w (ms_C M) (8 * f) (ms_c M (ms_F M (32 * j + a))) 8)) := by
    refine ⟨h.V, h.O, h.P, h.F, fun g d hg hd => ?_, fun d hd => ?_⟩
    · show mf_w (ms_C M) (8 * f) (ms_c M (ms_F M (32 * j + a))) 8 (8 * g + d) = (if g + 1 = f + 1 ∧ d < 8 then ks_C S (ks_F S j a) d else ks_C S (g + 1) d)
      by_cases e : g = f
      · rw [if_pos ⟨by omega, hd⟩, e, mf_in _ _ hd, h.c (by omega) hd, h.Fp hj ha]
      · rw [if_neg (by omega), mf_out _ _ (by omega)]
        exact h.C g d hg hd
    · show (if 0 = f + 1 ∧ d < 8 then ks_C S (ks_F S j a) d else ks_C S 0 d) = 0
      rw [if_neg (by omega)]
      exact h.Z d hd
  exact rl_pt hc hj ha (by omega)
theorem rl_own_o {x y v b : Int32} (h : rl S M) (ho : qo_own S x y v S') (hm : qm_own M x y b M') : ms_t M' = 0 ∧ v = b ∧ rl S' M' := by
  obtain ⟨j, q, hj, rfl, rfl, hq, hq2, ho⟩ := ho
  rcases hm with ⟨hno, _⟩ | ⟨i, a, hp, hm⟩
  · exact absurd (h.page hj rfl rfl hq) (hno j q)
  · obtain ⟨rfl, rfl⟩ := mo_pg1 h.O hp hj rfl hq2 rfl
    have hal := (h.st 0).al hj hq
    rcases ho with ⟨h1, rfl, rfl⟩ | ⟨h1, rfl, f, hf1, hf2, hf0, hfm, rfl⟩
    · rcases hm with ⟨_, rfl, rfl⟩ | ⟨w, _⟩ | ⟨w, _⟩
      · exact ⟨rfl, rfl, h⟩
      · exact absurd (hal.mp h1) w
      · exact absurd (hal.mp h1) w
    · rcases hm with ⟨w, _⟩ | ⟨_, w, _⟩ | ⟨_, f', hf', hf0', hfm', rfl, rfl⟩
      · exact absurd (hal.mpr w) h1
      · exact absurd hf0 ((h.st 0).nof.mpr w f hf1 hf2)
      · obtain rfl := (h.st 0).free hf1 hf2 hf0 hfm hf' hf0' hfm'
        exact ⟨rfl, rfl, rl_nf (h.st 0) hj hq hf'⟩
theorem rl_own_x {x y b : Int32} {E : String} (h : rl S M) (ho : qx_own S x y E) (hm : qm_own M x y b M') : ((E = kx_nse ∧ ms_t M' = 1) ∨ (E = kx_ae ∧ ms_t M' = 2)) ∧ rl S M' := by
  rcases ho with ⟨rfl, hc⟩ | ⟨rfl, hc, hall, j, q, hj, hq2, rfl, rfl, h1⟩
  · rcases hm with ⟨_, _, rfl⟩ | ⟨i, a, hi, _⟩
    · exact ⟨Or.inl ⟨rfl, rfl⟩, h⟩
    · exact absurd hi (h.nopage hc i a)
  · rcases hm with ⟨hno, _⟩ | ⟨i, a, hp, hm⟩
    · obtain ⟨j, a, hj⟩ := h.pageT hc
      exact absurd hj (hno j a)
    · obtain ⟨rfl, rfl⟩ := mo_pg1 h.O hp hj rfl hq2 rfl
      have hP1 := h.P1 hj (fun e => hp.1.2.2 ((h.B hj).mp e))
      have hal := (h.st 0).al hj (a := a) (by have := hp.2.2; omega)
      rcases hm with ⟨w, _⟩ | ⟨_, _, _, rfl⟩ | ⟨_, f', hf', hf0', _⟩
      · exact absurd (hal.mpr w) h1
      · exact ⟨Or.inr ⟨rfl, rfl⟩, h⟩
      · exact absurd hf0' ((h.st 0).nof.mp hall f' hf')
theorem rl_write_o {x y z v0 v b : Int32} (h : rl S M) (ho : qo_write S x y z v0 v S') (hm : qm_write M x y z v0 b M') : ms_t M' = 0 ∧ v = b ∧ rl S' M' := by
  obtain ⟨j, q, k, hj, rfl, rfl, hq, hq2, hk, rfl, rfl, ho⟩ := ho
  rcases hm with ⟨hno, _⟩ | ⟨i, a, hp, hm⟩
  · exact absurd (h.page hj rfl rfl hq) (hno j q)
  · obtain ⟨rfl, rfl⟩ := mo_pg1 h.O hp hj rfl hq2 rfl
    rcases hm with ⟨hc, _⟩ | ⟨k', hk', ek, hm⟩
    · rw [ks_cell_I hk] at hc
      cases hc
    · obtain rfl : k = k' := (nI_eq (by omega) (by omega)).mp ek
      have h33 := h.hP i hj
      have hF := h.V.1 i a hj hq2
      have hal := (h.st 0).al hj hq
      have eF : ks_F S i a = ms_F (ms_st M 0) (32 * i + a) := h.Fp hj hq
      have ec : ks_C S (ks_F S i a) k = ms_c (ms_st M 0) (ms_F (ms_st M 0) (32 * i + a)) k := by
        rw [(h.st 0).c (by omega) hk, eF]
      rcases ho with ⟨h0, rfl, rfl⟩ | ⟨h0, h1, rfl⟩ | ⟨h0, h1, f, hf1, hf2, hf0, hfm, rfl⟩
      · rcases hm with ⟨_, _, rfl, rfl⟩ | ⟨w, _⟩ | ⟨w, _⟩ | ⟨w, _⟩
        · exact ⟨rfl, ec, h⟩
        · exact absurd ⟨eF.symm.trans h0, rfl⟩ w
        · exact absurd ⟨eF.symm.trans h0, rfl⟩ w
        · exact absurd ⟨eF.symm.trans h0, rfl⟩ w
      · rcases hm with ⟨w1, w2, _⟩ | ⟨_, w, rfl, rfl⟩ | ⟨_, w, _⟩ | ⟨_, w, _⟩
        · exact absurd ⟨eF.trans w1, w2⟩ h0
        · refine ⟨rfl, ec, ?_⟩
          have e1 : ks_F S i a = ms_F (ms_st M 0) (32 * i + a) - 1 + 1 := by
            have := w.1
            omega
          rw [e1]
          exact rl_sC (h.st 0) hk v0
        · exact absurd (hal.mp h1) w
        · exact absurd (hal.mp h1) w
      · rcases hm with ⟨w1, w2, _⟩ | ⟨_, w, _⟩ | ⟨_, _, w, _⟩ | ⟨_, _, f', hf', hf0', hfm', rfl, rfl⟩
        · exact absurd ⟨eF.trans w1, w2⟩ h0
        · exact absurd (hal.mpr w) h1
        · exact absurd hf0 ((h.st 0).nof.mpr w f hf1 hf2)
        · obtain rfl := (h.st 0).free hf1 hf2 hf0 hfm hf' hf0' hfm'
          exact ⟨rfl, ec, rl_sC (rl_nf (h.st 0) hj hq hf') hk v0⟩
theorem rl_write_x {x y z v0 b : Int32} {E : String} (h : rl S M) (ho : qx_write S x y z v0 E) (hm : qm_write M x y z v0 b M') : ((E = kx_nse ∧ ms_t M' = 1) ∨ (E = kx_ae ∧ ms_t M' = 2)) ∧ rl S M' := by
  rcases ho with ⟨rfl, hc⟩ | ⟨rfl, hc, hz, hall, j, q, hj, hq2, rfl, rfl, h0, h1⟩
  · rcases hm with ⟨_, _, rfl⟩ | ⟨i, a, hi, hm⟩
    · exact ⟨Or.inl ⟨rfl, rfl⟩, h⟩
    · rcases hm with ⟨_, _, rfl⟩ | ⟨k, hk, rfl, _⟩
      · exact ⟨Or.inl ⟨rfl, rfl⟩, h⟩
      · rcases hc with hc | hc
        · exact absurd hi (h.nopage hc i a)
        · rw [ks_cell_I hk] at hc
          cases hc
  · rcases hm with ⟨hno, _⟩ | ⟨i, a, hp, hm⟩
    · obtain ⟨j, a, hj⟩ := h.pageT hc
      exact absurd hj (hno j a)
    · obtain ⟨rfl, rfl⟩ := mo_pg1 h.O hp hj rfl hq2 rfl
      have hP1 := h.P1 hj (fun e => hp.1.2.2 ((h.B hj).mp e))
      have hq : a + 1 < ks_P S i := by
        have := hp.2.2
        omega
      have hal := (h.st 0).al hj hq
      have eF : ks_F S i a = ms_F (ms_st M 0) (32 * i + a) := h.Fp hj hq
      rcases hm with ⟨hc2, _⟩ | ⟨k, hk, rfl, hm⟩
      · rw [hz] at hc2
        cases hc2
      · rcases hm with ⟨w1, w2, _⟩ | ⟨_, w, _⟩ | ⟨_, _, _, _, rfl⟩ | ⟨_, _, f', hf', hf0', _⟩
        · exact absurd ⟨eF.trans w1, w2⟩ h0
        · exact absurd (hal.mpr w) h1
        · exact ⟨Or.inr ⟨rfl, rfl⟩, h⟩
        · exact absurd hf0' ((h.st 0).nof.mp hall f' hf')
theorem rl_read_o {x y z v b : Int32} (h : rl S M) (ho : qo_read S x y z v S') (hm : qm_read M x y z b M') : ms_t M' = 0 ∧ v = b ∧ rl S' M' := by
  obtain ⟨j, q, k, hj, rfl, rfl, hq, hq2, hk, rfl, rfl, rfl⟩ := ho
  rcases hm with ⟨hno, _⟩ | ⟨i, a, hp, hm⟩
  · exact absurd (h.page hj rfl rfl hq) (hno j q)
  · obtain ⟨rfl, rfl⟩ := mo_pg1 h.O hp hj rfl hq2 rfl
    rcases hm with ⟨hc, _⟩ | ⟨k', hk', ek, rfl, rfl⟩
    · rw [ks_cell_I hk] at hc
      cases hc
    · obtain rfl : k = k' := (nI_eq (by omega) (by omega)).mp ek
      have hF := h.V.1 i a hj hq2
      have eF : ks_F S' i a = ms_F (ms_st M 0) (32 * i + a) := h.Fp hj hq
      exact ⟨rfl, by rw [(h.st 0).c (by omega) hk, eF], h⟩
theorem rl_read_x {x y z b : Int32} {E : String} (h : rl S M) (ho : qx_read S x y z E) (hm : qm_read M x y z b M') : (E = kx_nse ∧ ms_t M' = 1) ∧ rl S M' := by
  obtain ⟨rfl, hc⟩ := ho
  rcases hm with ⟨_, _, rfl⟩ | ⟨i, a, hi, hm⟩
  · exact ⟨⟨rfl, rfl⟩, h⟩
  · rcases hm with ⟨_, _, rfl⟩ | ⟨k, hk, rfl, _⟩
    · exact ⟨⟨rfl, rfl⟩, h⟩
    · rcases hc with hc | hc
      · exact absurd hi (h.nopage hc i a)
      · rw [ks_cell_I hk] at hc
        cases hc
theorem rl_common_o {x y x2 y2 v b : Int32} (h : rl S M) (ho : qo_common S x y x2 y2 v S') (hm : qm_common M x y x2 y2 b M') : ms_t M' = 0 ∧ v = b ∧ rl S' M' := by
  obtain ⟨j, q, j2, q2, hj, rfl, rfl, hq, hq2, hj2, rfl, rfl, hq3, hq4, rfl, rfl⟩ := ho
  rcases hm with ⟨hno, _⟩ | ⟨i, a, i2, a2, hp, hp2, rfl, rfl⟩
  · rcases hno with hno | hno
    · exact absurd (h.page hj rfl rfl hq) (hno j q)
    · exact absurd (h.page hj2 rfl rfl hq3) (hno j2 q2)
  · obtain ⟨rfl, rfl⟩ := mo_pg1 h.O hp hj rfl hq2 rfl
    obtain ⟨rfl, rfl⟩ := mo_pg1 h.O hp2 hj2 rfl hq4 rfl
    refine ⟨rfl, ?_, h⟩
    rw [h.Fp hj hq, h.Fp hj2 hq3]
    split <;> rfl
theorem rl_common_x {x y x2 y2 b : Int32} {E : String} (h : rl S M) (ho : qx_common S x y x2 y2 E) (hm : qm_common M x y x2 y2 b M') : (E = kx_nse ∧ ms_t M' = 1) ∧ rl S M' := by
  obtain ⟨rfl, hc⟩ := ho
  rcases hm with ⟨_, _, rfl⟩ | ⟨i, a, i2, a2, hp, hp2, _⟩
  · exact ⟨⟨rfl, rfl⟩, h⟩
  · rcases hc with hc | hc
    · exact absurd hp (h.nopage hc i a)
    · exact absurd hp2 (h.nopage hc i2 a2)
theorem rl_holders_o {x y v b : Int32} (h : rl S M) (ho : qo_holders S x y v S') (hm : qm_holders M x y b M') : ms_t M' = 0 ∧ v = b ∧ rl S' M' := by
  obtain ⟨j, q, hj, rfl, rfl, hq, hq2, rfl, rfl⟩ := ho
  rcases hm with ⟨hno, _⟩ | ⟨i, a, hp, rfl, rfl⟩
  · exact absurd (h.page hj rfl rfl hq) (hno j q)
  · obtain ⟨rfl, rfl⟩ := mo_pg1 h.O hp hj rfl hq2 rfl
    refine ⟨rfl, ?_, h⟩
    have hF := h.V.1 i a hj hq2
    have eF : ks_F S' i a = ms_F (ms_st M 0) (32 * i + a) := h.Fp hj hq
    rw [← eF]
    by_cases e : ks_F S' i a = 0
    · rw [if_pos e, e, h.V.2.2]
    · rw [if_neg e, (h.st 0).H e (by omega)]
theorem rl_holders_x {x y b : Int32} {E : String} (h : rl S M) (ho : qx_holders S x y E) (hm : qm_holders M x y b M') : (E = kx_nse ∧ ms_t M' = 1) ∧ rl S M' := by
  obtain ⟨rfl, hc⟩ := ho
  rcases hm with ⟨_, _, rfl⟩ | ⟨i, a, hi, _⟩
  · exact ⟨⟨rfl, rfl⟩, h⟩
  · exact absurd hi (h.nopage hc i a)
theorem rl_lay_o {x y x2 y2 z v b : Int32} (h : rl S M) (ho : qo_lay S x y x2 y2 z v S') (hm : qm_lay M x y x2 y2 z b M') : ms_t M' = 0 ∧ v = b ∧ rl S' M' := by
  obtain ⟨j, a, jt, at_, n, w, g, o, hj, rfl, rfl, hjt, rfl, rfl, rfl, hj0, hjt0, hab, hab2, rfl, rfl, hg, hg0, hw⟩ := ho
  have h33 := h.hP j hj
  have h34 := h.hP jt hjt
  have hP1 := h.P1 hj hj0
  rcases hm with ⟨hno, _⟩ | ⟨i, a', it, at', n', K, hp, hp2, rfl, rfl⟩
  · exact absurd ⟨h.pages hj rfl rfl rfl hab, h.pages hjt rfl rfl rfl hab2⟩ (hno j a jt at_ n)
  · obtain ⟨rfl, rfl, rfl⟩ := mo_pgs1 h.O hp hj rfl (a := a) (by omega) rfl (b := n) (by omega) rfl
    obtain ⟨rfl, rfl, _⟩ := mo_pgs1 h.O hp2 hjt rfl (a := at_) (by omega) rfl (b := n') (by omega) rfl
    have hr : rl (ly_S S (ly_F (ks_F S) (fun t => ks_F S it (at' + t)) i a' n') g o) (ms_uF (ms_uK (ms_st M 0) K) (mf_w (ms_F M) (32 * i + a') (fun t => ms_F M (32 * it + (at' + t))) n')) := by
      refine ⟨⟨ly_lt h.V.1 (fun t ht => h.V.1 it (at' + t) hjt (by omega)), hg, hg0⟩, ⟨h.O.1, h.O.2.1, fun t ht => ?_⟩, h.P, fun t p ht hp3 => ?_, h.C, h.Z⟩
      · show mf_w (ms_F M) (32 * i + a') (fun t => ms_F M (32 * it + (at' + t))) n' t ≤ 200
        unfold mf_w
        split
        · exact h.O.2.2 _ (by omega)
        · exact h.O.2.2 t ht
      · show ly_F (ks_F S) (fun t => ks_F S it (at' + t)) i a' n' t p = (if p + 1 < mv_P M t then mf_w (ms_F M) (32 * i + a') (fun t => ms_F M (32 * it + (at' + t))) n' (32 * t + p) else 0)
        unfold ly_F
        by_cases e : t = i ∧ a' ≤ p ∧ p < a' + n'
        · rw [if_pos e, e.1, ← h.P i hj, if_pos (by omega), show 32 * i + p = 32 * i + a' + (p - a') by omega, mf_in _ _ (by omega)]
          exact h.Fp hjt (by omega)
        · rw [if_neg e, mf_out _ _ (by omega)]
          exact h.F t p ht hp3
    exact ⟨rfl, rl_diff (h.st 0) hr hw, hr⟩
theorem rl_lay_x {x y x2 y2 z b : Int32} {E : String} (h : rl S M) (ho : qx_lay S x y x2 y2 z E) (hm : qm_lay M x y x2 y2 z b M') : (E = kx_nse ∧ ms_t M' = 1) ∧ rl S M' := by
  obtain ⟨rfl, hc⟩ := ho
  rcases hm with ⟨_, _, rfl⟩ | ⟨i, a', it, at', n', K, hp, hp2, _⟩
  · exact ⟨⟨rfl, rfl⟩, h⟩
  · rcases hc with hc | hc
    · exact absurd hp (h.nopages hc i a' n')
    · exact absurd hp2 (h.nopages hc it at' n')
end RL2
