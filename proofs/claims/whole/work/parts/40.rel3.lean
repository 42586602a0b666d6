/-! sweep and merge in step -/
section RL3
variable {S S' : ks_T} {M M' : ms_T}
theorem itr_m {st : ks_T → Nat → Nat → ks_T × Nat} {I : ks_T → Prop} {f : Nat → Nat} {r : Nat} (hr : r < 40) (hs : ∀ T p, p < 32 → I T → I (st T r p).1 ∧ (∀ x y, ks_F (st T r p).1 x y = if x = r ∧ y = p then f (ks_F T r p) else ks_F T x y) ∧ nz_f (ks_H T) = nz_f (ks_H (st T r p).1) + (st T r p).2) {T : ks_T} (h0 : I T) : ∀ n, n ≤ 32 → I (it_r st T r n).1 ∧ (∀ x y, ks_F (it_r st T r n).1 x y = if x = r ∧ y < n then f (ks_F T x y) else ks_F T x y) ∧ nz_f (ks_H T) = nz_f (ks_H (it_r st T r n).1) + (it_r st T r n).2
  | 0, _ => ⟨h0, fun x y => by
      rw [if_neg (by omega)]
      rfl, (Nat.add_zero _).symm⟩
  | n + 1, hn => by
    obtain ⟨h1, h2, h3⟩ := itr_m hr hs h0 n (by omega)
    obtain ⟨h4, h5, h6⟩ := hs (it_r st T r n).1 n (by omega) h1
    refine ⟨h4, fun x y => ?_, ?_⟩
    · show ks_F (st (it_r st T r n).1 r n).1 x y = _
      rw [h5]
      by_cases e : x = r ∧ y = n
      · rw [if_pos e, if_pos ⟨e.1, by omega⟩, h2, if_neg (by omega), e.1, e.2]
      · rw [if_neg e, h2]
        by_cases q : x = r ∧ y < n
        · rw [if_pos q, if_pos ⟨q.1, by omega⟩]
        · rw [if_neg q, if_neg (fun w => q ⟨w.1, by omega⟩)]
    · show _ = nz_f (ks_H (st (it_r st T r n).1 r n).1) + ((it_r st T r n).2 + (st (it_r st T r n).1 r n).2)
      omega
theorem ita_m {st : ks_T → Nat → Nat → ks_T × Nat} {I : ks_T → Prop} {f : Nat → Nat} (hs : ∀ T r p, r < 40 → p < 32 → I T → I (st T r p).1 ∧ (∀ x y, ks_F (st T r p).1 x y = if x = r ∧ y = p then f (ks_F T r p) else ks_F T x y) ∧ nz_f (ks_H T) = nz_f (ks_H (st T r p).1) + (st T r p).2) {T : ks_T} (hP : ∀ r, r < 40 → ks_P T r ≤ 33) (h0 : I T) : ∀ n, n ≤ 40 → I (it_a st T n).1 ∧ (∀ x y, ks_F (it_a st T n).1 x y = if x < n ∧ y + 1 < ks_P T x then f (ks_F T x y) else ks_F T x y) ∧ nz_f (ks_H T) = nz_f (ks_H (it_a st T n).1) + (it_a st T n).2
  | 0, _ => ⟨h0, fun x y => by
      rw [if_neg (by omega)]
      rfl, (Nat.add_zero _).symm⟩
  | n + 1, hn => by
    obtain ⟨h1, h2, h3⟩ := ita_m hs hP h0 n (by omega)
    have h33 := hP n (by omega)
    obtain ⟨h4, h5, h6⟩ := itr_m (r := n) (by omega) (fun U p hp hU => hs U n p (by omega) hp hU) h1 (ks_P T n - 1) (by omega)
    refine ⟨h4, fun x y => ?_, ?_⟩
    · show ks_F (it_r st (it_a st T n).1 n (ks_P T n - 1)).1 x y = _
      rw [h5]
      by_cases e : x = n ∧ y < ks_P T n - 1
      · rw [if_pos e, if_pos ⟨by omega, by rw [e.1]; omega⟩, h2, if_neg (by omega)]
      · rw [if_neg e, h2]
        by_cases q : x < n ∧ y + 1 < ks_P T x
        · rw [if_pos q, if_pos ⟨by omega, q.2⟩]
        · rw [if_neg q, if_neg (fun w => by
            by_cases e2 : x = n
            · have w2 := w.2
              rw [e2] at w2
              exact e ⟨e2, by omega⟩
            · exact q ⟨by omega, w.2⟩)]
    · show _ = nz_f (ks_H (it_r st (it_a st T n).1 n (ks_P T n - 1)).1) + ((it_a st T n).2 + (it_r st (it_a st T n).1 n (ks_P T n - 1)).2)
      omega
/-- the view of a change, and how many frames are left -/
theorem mh_v {g k : Nat} (hg : g ≠ 0) (r p : Nat) (hr : r < 40) (hp : p < 32) : mv_F (ms_mh M g k) r p = if mv_F M r p = g then k else mv_F M r p := by
  have hd := mh_dm (r := r) (i := p) hp
  show (if p + 1 < mv_P M r then mh_f M g k 1280 (32 * r + p) else 0) = _
  unfold mv_F
  by_cases e : p + 1 < mv_P M r
  · rw [if_pos e, if_pos e]
    have hB : ms_B M r ≠ 0 := fun w => by
      rw [mv_P0 w] at e
      omega
    rw [mv_P1 hB] at e
    unfold mh_f
    by_cases q : ms_F M (32 * r + p) = g
    · rw [if_pos q, if_pos ⟨by omega, by rw [hd.1]; exact hB, by rw [hd.1, hd.2]; omega, q⟩]
    · rw [if_neg q, if_neg (fun w => q w.2.2.2)]
  · rw [if_neg e, if_neg e, if_neg (fun w => hg w.symm)]
theorem mh_nz {g k : Nat} (hg1 : 1 ≤ g) (hg2 : g ≤ 200) (hc : cn_f (mv_F M) g ≠ 0) (hk : k = 0 ∨ (k ≠ g ∧ cn_f (mv_F M) k ≠ 0)) : nz_f (cn_f (mv_F M)) = nz_f (cn_f (mv_F (ms_mh M g k))) + 1 := by
  have e0 : cn_f (mv_F (ms_mh M g k)) g = 0 := by
    by_cases w : 0 < cn_f (mv_F (ms_mh M g k)) g
    · obtain ⟨r, p, hr, hp, e⟩ := cn_f_pos.mp w
      rw [mh_v (by omega) r p hr hp] at e
      by_cases q : mv_F M r p = g
      · rw [if_pos q] at e
        rcases hk with hk | hk
        · omega
        · exact absurd e hk.1
      · rw [if_neg q] at e
        exact absurd e q
    · omega
  have h1 := nz_down (h := cn_f (mv_F M)) (h' := fun i => if i = g then 0 else cn_f (mv_F M) i) (f := g) hg1 hg2 (by omega) (fun i hi => if_neg hi)
  rw [if_pos (if_pos rfl)] at h1
  rw [h1]
  refine congrArg (fun n => n + 1) (nz_congr (fun f hf1 hf2 => ?_))
  by_cases e : f = g
  · rw [if_pos e, e, e0]
  · rw [if_neg e, cn_f_pos, cn_f_pos]
    constructor
    · rintro ⟨r, p, hr, hp, w⟩
      exact ⟨r, p, hr, hp, by rw [mh_v (by omega) r p hr hp, if_neg (fun w2 => e (w.symm.trans w2)), w]⟩
    · rintro ⟨r, p, hr, hp, w⟩
      rw [mh_v (by omega) r p hr hp] at w
      by_cases q : mv_F M r p = g
      · rw [if_pos q] at w
        rcases hk with hk | hk
        · omega
        · rw [← w]
          exact cn_f_pos.mp (by omega)
      · rw [if_neg q] at w
        exact ⟨r, p, hr, hp, w⟩
theorem mh_same {g k : Nat} : ms_C (ms_mh M g k) = ms_C M ∧ mv_P (ms_mh M g k) = mv_P M ∧ ms_t (ms_mh M g k) = ms_t M := ⟨rfl, rfl, rfl⟩
theorem mv_F_le (hO : mv_ok M) {r p : Nat} (hr : r < 40) (hp : p < 32) : mv_F M r p ≤ 200 := by
  unfold mv_F
  split
  · exact hO.2.2 _ (by omega)
  · omega
theorem sw_inv (hO : mv_ok M) : ∀ n, n ≤ 200 → mv_ok (sw_m M n).1 ∧ ms_C (sw_m M n).1 = ms_C M ∧ mv_P (sw_m M n).1 = mv_P M ∧ ms_t (sw_m M n).1 = ms_t M ∧ (∀ r p, r < 40 → p < 32 → mv_F (sw_m M n).1 r p = if mv_F M r p ≠ 0 ∧ mv_F M r p ≤ n ∧ ms_z M (mv_F M r p - 1) = true then 0 else mv_F M r p) ∧ nz_f (cn_f (mv_F M)) = nz_f (cn_f (mv_F (sw_m M n).1)) + (sw_m M n).2
  | 0, _ => ⟨hO, rfl, rfl, rfl, fun r p _ _ => by
      rw [if_neg (by omega)]
      rfl, (Nat.add_zero _).symm⟩
  | n + 1, hn => by
    obtain ⟨h1, h2, h3, h3t, h4, h5⟩ := sw_inv hO n (by omega)
    have hz : ms_z (sw_m M n).1 n = ms_z M n := by
      unfold ms_z
      rw [h2]
    have hcn : cn_f (mv_F (sw_m M n).1) (n + 1) = cn_f (mv_F M) (n + 1) := by
      refine ct_s_congr (fun r hr => ct_b_congr (fun p hp => ?_))
      rw [h4 r p hr hp]
      by_cases q : mv_F M r p ≠ 0 ∧ mv_F M r p ≤ n ∧ ms_z M (mv_F M r p - 1) = true
      · rw [if_pos q, decide_eq_false (by omega), decide_eq_false (by omega)]
      · rw [if_neg q]
    by_cases hc : cn_f (mv_F (sw_m M n).1) (n + 1) ≠ 0 ∧ ms_z (sw_m M n).1 n = true
    · have e := sw_t hc.1 hc.2
      show mv_ok (sw_c (sw_m M n) n).1 ∧ ms_C (sw_c (sw_m M n) n).1 = ms_C M ∧ mv_P (sw_c (sw_m M n) n).1 = mv_P M ∧ ms_t (sw_c (sw_m M n) n).1 = ms_t M ∧ (∀ r p, r < 40 → p < 32 → mv_F (sw_c (sw_m M n) n).1 r p = if mv_F M r p ≠ 0 ∧ mv_F M r p ≤ n + 1 ∧ ms_z M (mv_F M r p - 1) = true then 0 else mv_F M r p) ∧ nz_f (cn_f (mv_F M)) = nz_f (cn_f (mv_F (sw_c (sw_m M n) n).1)) + (sw_c (sw_m M n) n).2
      rw [e]
      refine ⟨mv_mh h1 (by omega), h2, h3, h3t, fun r p hr hp => ?_, ?_⟩
      · show mv_F (ms_mh (sw_m M n).1 (n + 1) 0) r p = _
        rw [mh_v (by omega) r p hr hp, h4 r p hr hp]
        by_cases q : mv_F M r p ≠ 0 ∧ mv_F M r p ≤ n ∧ ms_z M (mv_F M r p - 1) = true
        · rw [if_pos q, if_neg (by omega), if_pos ⟨q.1, by omega, q.2.2⟩]
        · rw [if_neg q]
          by_cases q2 : mv_F M r p = n + 1
          · rw [if_pos q2, if_pos ⟨by omega, by omega, by rw [q2]; exact hz ▸ hc.2⟩]
          · rw [if_neg q2, if_neg (fun w => q ⟨w.1, by omega, w.2.2⟩)]
      · have h6 := mh_nz (M := (sw_m M n).1) (g := n + 1) (k := 0) (by omega) (by omega) hc.1 (Or.inl rfl)
        show _ = nz_f (cn_f (mv_F (ms_mh (sw_m M n).1 (n + 1) 0))) + ((sw_m M n).2 + 1)
        omega
    · have e : sw_c (sw_m M n) n = sw_m M n := if_neg hc
      show mv_ok (sw_c (sw_m M n) n).1 ∧ ms_C (sw_c (sw_m M n) n).1 = ms_C M ∧ mv_P (sw_c (sw_m M n) n).1 = mv_P M ∧ ms_t (sw_c (sw_m M n) n).1 = ms_t M ∧ (∀ r p, r < 40 → p < 32 → mv_F (sw_c (sw_m M n) n).1 r p = if mv_F M r p ≠ 0 ∧ mv_F M r p ≤ n + 1 ∧ ms_z M (mv_F M r p - 1) = true then 0 else mv_F M r p) ∧ nz_f (cn_f (mv_F M)) = nz_f (cn_f (mv_F (sw_c (sw_m M n) n).1)) + (sw_c (sw_m M n) n).2
      rw [e]
      refine ⟨h1, h2, h3, h3t, fun r p hr hp => ?_, h5⟩
      rw [h4 r p hr hp]
      by_cases q : mv_F M r p ≠ 0 ∧ mv_F M r p ≤ n ∧ ms_z M (mv_F M r p - 1) = true
      · rw [if_pos q, if_pos ⟨q.1, by omega, q.2.2⟩]
      · rw [if_neg q, if_neg (fun w => by
          by_cases q2 : mv_F M r p = n + 1
          · refine hc ⟨?_, ?_⟩
            · rw [hcn]
              have := cn_f_pos.mpr ⟨r, p, hr, hp, q2⟩
              omega
            · rw [hz]
              have w2 := w.2.2
              rw [q2] at w2
              exact w2
          · exact q ⟨w.1, by omega, w.2.2⟩)]
theorem rl_same0 (h : rl S M) {g : Nat} (hg : g ≤ 200) (h0 : g ≠ 0) : ks_same S g 0 = ms_z M (g - 1) := by
  have e : ks_same S g 0 = true ↔ ms_z M (g - 1) = true := by
    rw [ks_same_iff, ms_z_iff]
    constructor
    · intro w d hd
      rw [h.C (g - 1) d (by omega) hd, show g - 1 + 1 = g by omega, w d hd]
      exact h.Z d hd
    · intro w d hd
      have := h.C (g - 1) d (by omega) hd
      rw [show g - 1 + 1 = g by omega, w d hd] at this
      rw [← this]
      exact (h.Z d hd).symm
  exact Bool.eq_iff_iff.mpr e
theorem rl_sweep {v b : Int32} (h : rl S M) (ho : qo_sweep S v S') (hm : qm_sweep M b M') : v = b ∧ rl S' M' := by
  obtain ⟨ho1, ho2⟩ := ho
  obtain ⟨hm1, hm2⟩ := hm
  rw [ho1, ho2, hm1, hm2]
  have hs : ∀ T r p, r < 40 → p < 32 → (kv_c T ∧ ks_P T = ks_P S ∧ ks_C T = ks_C S) → (kv_c (ks_swp T r p).1 ∧ ks_P (ks_swp T r p).1 = ks_P S ∧ ks_C (ks_swp T r p).1 = ks_C S) ∧ (∀ x y, ks_F (ks_swp T r p).1 x y = if x = r ∧ y = p then (fun g => if ks_same S g 0 = true then 0 else g) (ks_F T r p) else ks_F T x y) ∧ nz_f (ks_H T) = nz_f (ks_H (ks_swp T r p).1) + (ks_swp T r p).2 := by
    intro T r p hr hp hI
    refine ⟨swp_I hr hp hI, ?_⟩
    have hF := hI.1.1 r p hr hp
    have e0 : ks_same T (ks_F T r p) 0 = ks_same S (ks_F T r p) 0 := by
      unfold ks_same
      rw [hI.2.2]
    rcases (Bool.eq_false_or_eq_true (ks_same T (ks_F T r p) 0)).symm with e | e
    · rw [swp_f e]
      refine ⟨fun x y => ?_, (Nat.add_zero _).symm⟩
      rw [e0] at e
      by_cases q : x = r ∧ y = p
      · rw [if_pos q]
        show _ = if ks_same S (ks_F T r p) 0 = true then 0 else ks_F T r p
        rw [e, q.1, q.2]
        rfl
      · rw [if_neg q]
    · rw [swp_t e]
      rw [e0] at e
      refine ⟨fun x y => ?_, ?_⟩
      · show cn_u (ks_F T) r p 0 x y = _
        by_cases q : x = r ∧ y = p
        · rw [if_pos q, q.1, q.2, cn_u_s]
          show _ = if ks_same S (ks_F T r p) 0 = true then 0 else ks_F T r p
          rw [e]
          rfl
        · rw [if_neg q, cn_u_n q]
      · exact kp_nzl (H := ks_H T) (f := ks_F T r p) (by omega) (fun h0 => kv_1 hI.1 hr hp h0)
  obtain ⟨⟨k1, k2, k3⟩, k4, k5⟩ := ita_m (st := ks_swp) (I := fun T => kv_c T ∧ ks_P T = ks_P S ∧ ks_C T = ks_C S) (f := fun g => if ks_same S g 0 = true then 0 else g) hs h.hP ⟨h.V, rfl, rfl⟩ 40 (by omega)
  obtain ⟨m1, m2, m3, _, m4, m5⟩ := sw_inv (M := ms_st M 0) h.O 200 (by omega)
  have hr : rl (it_a ks_swp S 40).1 (sw_m (ms_st M 0) 200).1 := by
    refine ⟨k1, m1, fun r hr => ?_, fun r p hr hp => ?_, fun f d hf hd => ?_, fun d hd => ?_⟩
    · rw [k2, m3]
      exact h.P r hr
    · have eF : ks_F S r p = mv_F (ms_st M 0) r p := h.F r p hr hp
      have hle := mv_F_le (M := ms_st M 0) h.O hr hp
      rw [k4, m4 r p hr hp, ← eF]
      by_cases q : r < 40 ∧ p + 1 < ks_P S r
      · rw [if_pos q]
        show (if ks_same S (ks_F S r p) 0 = true then 0 else ks_F S r p) = _
        by_cases z : ks_F S r p = 0
        · rw [if_neg (show ¬ (ks_F S r p ≠ 0 ∧ ks_F S r p ≤ 200 ∧ ms_z (ms_st M 0) (ks_F S r p - 1) = true) from fun w => w.1 z), z]
          split <;> rfl
        · rw [rl_same0 (h.st 0) (by omega) z]
          by_cases z2 : ms_z (ms_st M 0) (ks_F S r p - 1) = true
          · rw [if_pos z2, if_pos ⟨z, by omega, z2⟩]
          · rw [if_neg z2, if_neg (fun w => z2 w.2.2)]
      · rw [if_neg q, h.F0 hr hp (by omega), if_neg (fun w => w.1 rfl)]
    · rw [k3, m2]
      exact h.C f d hf hd
    · rw [k3]
      exact h.Z d hd
  refine ⟨?_, hr⟩
  have e1 := (h.st 0).nz
  have e2 := hr.nz
  exact congrArg nI (by omega)
/-! the frame that keeps another's cells -/
theorem ke_p (h : kv_c S) {g : Nat} (hg1 : 1 ≤ g) (hH : ks_H S g ≠ 0) : 1 ≤ ks_ke S g ∧ ks_ke S g ≤ g ∧ ks_H S (ks_ke S g) ≠ 0 ∧ ks_same S (ks_ke S g) g = true ∧ ∀ i, 1 ≤ i → i < ks_ke S g → ks_H S i ≠ 0 → ks_same S i g = false := by
  unfold ks_ke
  rw [if_neg hH]
  have h1 := ls_le (ks_q1 S g) (g - 1)
  refine ⟨by unfold ks_fw; omega, ks_fw_le hg1, ?_, ?_, fun i hi1 hi2 hiH => ?_⟩
  · by_cases e : ls_b (ks_q1 S g) (g - 1) < g - 1
    · have e2 : (decide (0 < ks_H S (ls_b (ks_q1 S g) (g - 1) + 1)) && ks_same S (ls_b (ks_q1 S g) (g - 1) + 1) g) = true := ls_yes e
      rw [Bool.and_eq_true] at e2
      have e3 := of_decide_eq_true e2.1
      unfold ks_fw
      rw [Nat.add_comm]
      omega
    · have e2 : ks_fw S g = g := by
        unfold ks_fw
        omega
      rw [e2]
      exact hH
  · by_cases e : ls_b (ks_q1 S g) (g - 1) < g - 1
    · have e2 : (decide (0 < ks_H S (ls_b (ks_q1 S g) (g - 1) + 1)) && ks_same S (ls_b (ks_q1 S g) (g - 1) + 1) g) = true := ls_yes e
      rw [Bool.and_eq_true] at e2
      unfold ks_fw
      rw [Nat.add_comm]
      exact e2.2
    · have e2 : ks_fw S g = g := by
        unfold ks_fw
        omega
      rw [e2]
      exact ks_same_t (fun _ _ => rfl)
  · have e2 := ls_no (q := ks_q1 S g) (n := g - 1) (i := i - 1) (by unfold ks_fw at hi2; omega)
    unfold ks_q1 at e2
    rw [show i - 1 + 1 = i by omega, decide_eq_true (by omega), Bool.true_and] at e2
    exact e2
theorem ke_0 (h : kv_c S) : ks_ke S 0 = 0 := by
  unfold ks_ke
  rw [if_pos h.2.2]
theorem ks_sm_tr {f g k : Nat} (h1 : ks_same S f g = true) (h2 : ks_same S g k = true) : ks_same S f k = true := ks_same_t (fun j hj => (ks_same_iff.mp h1 j hj).trans (ks_same_iff.mp h2 j hj))
theorem ke_ke (h : kv_c S) {g : Nat} (hH : g ≠ 0 → ks_H S g ≠ 0) : ks_ke S (ks_ke S g) = ks_ke S g := by
  by_cases h0 : g = 0
  · rw [h0, ke_0 h, ke_0 h]
  · obtain ⟨a1, a2, a3, a4, a5⟩ := ke_p h (by omega) (hH h0)
    obtain ⟨b1, b2, b3, b4, _⟩ := ke_p h a1 a3
    by_cases e : ks_ke S (ks_ke S g) < ks_ke S g
    · have := a5 _ b1 e b3
      rw [ks_sm_tr b4 a4] at this
      cases this
    · omega
end RL3
