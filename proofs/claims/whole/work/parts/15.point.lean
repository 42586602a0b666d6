/-! a page is pointed to another frame: what happens to the holders -/
def kp_h (H : Nat → Nat) (g : Nat) : Nat → Nat := if g = 0 then H else ks_uN H g (H g + 1)
def kp_l (H : Nat → Nat) (f : Nat) : Nat → Nat := if f = 0 then H else ks_uN H f (H f - 1)
def kp_w (H : Nat → Nat) (f : Nat) : Nat := if f = 0 then 0 else if H f - 1 = 0 then 1 else 0
def ks_hd (S : ks_T) (f : Nat) : ks_T := (ks_P S, ks_F S, ks_C S, kp_h (ks_H S) f, ks_A S, ks_O S, ks_K S)
def ks_lg (S : ks_T) (f : Nat) : ks_T := (ks_P S, ks_F S, ks_C S, kp_l (ks_H S) f, ks_A S, ks_O S, ks_K S)
def ks_pt (S : ks_T) (r p g : Nat) : ks_T := ks_lg (ks_sF (ks_hd S g) r p g) (ks_F S r p)
theorem kp_h0 (H : Nat → Nat) : kp_h H 0 = H := rfl
theorem kp_l0 (H : Nat → Nat) : kp_l H 0 = H := rfl
theorem kp_hs {H : Nat → Nat} {g : Nat} (hg : g ≠ 0) : kp_h H g = ks_uN H g (H g + 1) := if_neg hg
theorem kp_ls {H : Nat → Nat} {g : Nat} (hg : g ≠ 0) : kp_l H g = ks_uN H g (H g - 1) := if_neg hg
theorem kp_h_at (H : Nat → Nat) (g f : Nat) (hf : f ≠ 0) : kp_h H g f = H f + (if g = f then 1 else 0) := by
  unfold kp_h
  by_cases hg : g = 0
  · rw [if_pos hg, if_neg (fun z => hf (by omega))]
    omega
  · rw [if_neg hg]
    unfold ks_uN
    by_cases h : f = g
    · subst h
      rw [if_pos rfl, if_pos rfl]
    · rw [if_neg h, if_neg (fun z => h z.symm)]
      omega
theorem kp_h_z (H : Nat → Nat) (g : Nat) : kp_h H g 0 = H 0 := by
  unfold kp_h
  by_cases hg : g = 0
  · rw [if_pos hg]
  · rw [if_neg hg]
    exact if_neg (fun z => hg z.symm)
theorem kp_l_at (H : Nat → Nat) (g f : Nat) (hf : f ≠ 0) : kp_l H g f = H f - (if g = f then 1 else 0) := by
  unfold kp_l
  by_cases hg : g = 0
  · rw [if_pos hg, if_neg (fun z => hf (by omega))]
    omega
  · rw [if_neg hg]
    unfold ks_uN
    by_cases h : f = g
    · subst h
      rw [if_pos rfl, if_pos rfl]
    · rw [if_neg h, if_neg (fun z => h z.symm)]
      omega
theorem kp_l_z (H : Nat → Nat) (g : Nat) : kp_l H g 0 = H 0 := by
  unfold kp_l
  by_cases hg : g = 0
  · rw [if_pos hg]
  · rw [if_neg hg]
    exact if_neg (fun z => hg z.symm)
/-- the holders are the pages that hold, and D more -/
theorem kp_cn {F : Nat → Nat → Nat} {H D : Nat → Nat} {r p g f : Nat} (hr : r < 40) (hp : p < 32) (h : ∀ f, f ≠ 0 → f ≤ 200 → H f = cn_f F f + D f) (hf : f ≠ 0) (hf2 : f ≤ 200) : kp_l (kp_h H g) (F r p) f = cn_f (cn_u F r p g) f + D f := by
  have e1 := cn_f_up (F := F) (g := g) (f := f) hr hp
  rw [kp_l_at _ _ _ hf, kp_h_at _ _ _ hf, h f hf hf2]
  by_cases h1 : F r p = f
  · have h2 : 0 < cn_f F f := cn_f_pos.mpr ⟨r, p, hr, hp, h1⟩
    rw [if_pos h1] at e1 ⊢
    by_cases h3 : g = f
    · rw [if_pos h3] at e1 ⊢
      omega
    · rw [if_neg h3] at e1 ⊢
      omega
  · rw [if_neg h1] at e1 ⊢
    by_cases h3 : g = f
    · rw [if_pos h3] at e1 ⊢
      omega
    · rw [if_neg h3] at e1 ⊢
      omega
theorem kp_nzh {H : Nat → Nat} {g : Nat} (hg : g ≠ 0 → 0 < H g) : nz_f (kp_h H g) = nz_f H := by
  refine nz_congr (fun f h1 _ => ?_)
  rw [kp_h_at _ _ _ (by omega)]
  by_cases h : g = f
  · subst h
    rw [if_pos rfl]
    have := hg (by omega)
    omega
  · rw [if_neg h]
    omega
theorem kp_nzl {H : Nat → Nat} {f : Nat} (h2 : f ≤ 200) (hp : f ≠ 0 → 0 < H f) : nz_f H = nz_f (kp_l H f) + kp_w H f := by
  unfold kp_w
  by_cases h0 : f = 0
  · subst h0
    rw [kp_l0, if_pos rfl, Nat.add_zero]
  · rw [if_neg h0]
    have k := nz_down (h := H) (h' := kp_l H f) (f := f) (by omega) h2 (hp h0) (fun i hi => by
      rw [kp_ls h0]
      exact if_neg hi)
    have e : kp_l H f f = H f - 1 := by
      rw [kp_ls h0]
      exact if_pos rfl
    rw [e] at k
    exact k
theorem kp_nz {H : Nat → Nat} {g f : Nat} (h2 : f ≤ 200) (hg : g ≠ 0 → 0 < H g) (hp : f ≠ 0 → 0 < H f) : nz_f H = nz_f (kp_l (kp_h H g) f) + kp_w (kp_h H g) f := by
  rw [← kp_nzh (H := H) (g := g) hg]
  refine kp_nzl h2 (fun h0 => ?_)
  rw [kp_h_at _ _ _ h0]
  have := hp h0
  omega
