/-! rows over the class's state -/
theorem kc_n_le (k : Nat) : kc_n k ≤ 201 := by
  unfold kc_n
  split
  · omega
  · split
    · omega
    · split
      · omega
      · split
        · omega
        · split
          · omega
          · split <;> omega
theorem kc_ext {S S' : ks_T} {j : Nat} (h0 : j = 0 → ∀ i, ks_P S' i = ks_P S i) (h1 : j = 1 → ∀ i, ks_H S' i = ks_H S i) (h2 : j = 2 → ∀ i, ks_A S' i = ks_A S i) (h3 : j = 3 → ∀ i, ks_O S' i = ks_O S i) (h4 : j = 4 → ∀ i, ks_K S' i = ks_K S i)
    (hF : ∀ a, j = 5 + a → a < 40 → ∀ i, ks_F S' a i = ks_F S a i) (hC : ∀ a, j = 45 + a → ∀ i, ks_C S' a i = ks_C S a i) : kc_d S' j = kc_d S j := by
  funext i
  by_cases e0 : j = 0
  · have h := h0 e0 i
    subst e0
    show ks_e (ks_P S' i) = ks_e (ks_P S i)
    rw [h]
  · by_cases e1 : j = 1
    · have h := h1 e1 i
      subst e1
      show nI (ks_H S' i) = nI (ks_H S i)
      rw [h]
    · by_cases e2 : j = 2
      · have h := h2 e2 i
        subst e2
        exact h
      · by_cases e3 : j = 3
        · have h := h3 e3 i
          subst e3
          exact h
        · by_cases e4 : j = 4
          · have h := h4 e4 i
            subst e4
            exact h
          · by_cases e5 : j < 45
            · obtain ⟨a, rfl⟩ : ∃ a, j = 5 + a := ⟨j - 5, by omega⟩
              rw [kc_dF _ _ (by omega), kc_dF _ _ (by omega), hF a rfl (by omega) i]
            · obtain ⟨a, rfl⟩ : ∃ a, j = 45 + a := ⟨j - 45, by omega⟩
              rw [kc_dC, kc_dC, hC a rfl i]
section KR
variable {p : Program} {l : Launch} {e : Env} {R : Room} {s : State} {m : MethodId} {args : Array Value} {below : List Frame} {meth : Method} {c : Code} {H : Heap} {locs : List Loc} {cells slots : Nat} {Q : State → Prop}
variable {cc : ByteArray} {pc : Nat} {ls : Array Slot} {rest : List Value} {G : kg_T} {S : ks_T} {A : Nat → Prop} {H0 : Heap}
theorem kr_get (hx : p.tables.exec = Jvm.exec) (hb : c.code = cc) {own : String} {index : Nat} {Ts : List Cond} (hts : ∀ w ∈ Ts, w.before args s = true) (hin : ∀ w ∈ u_ws RX0 TX0 7, w ∈ Ts) (hown : s.vm.findClass own = some m.cls) (hK : kc_K G s) (hC : kc_at G A H0 S H locs) (k : Nat) (hk : k < 7) (hlink : (Cond.fieldLink own index RX0 (TX0 k).2.1 (TX0 k).2.2.1).before args s = true) (hsm : (TX0 k).1 = RX0) {v : Value} (hv : (kc_f G)[k]? = some v) (hdg : decode cc pc = .ok (.getfield index, 3))
    (kk : W p l e R s m args below meth c H locs cells slots Q (F0 m (pc + 3) ls (v :: rest))) : W p l e R s m args below meth c H locs cells slots Q (F0 m pc ls (.ref (kg_h G) :: rest)) :=
  va_get (C := RX0) (T := TX0) (N := 7) (ci := 0) hx hb hts hin hown hK hC.1 0 rfl rfl k hk hlink (fun x h9 => by rw [← hsm]; exact h9) hv hdg kk
theorem kr_ald (hx : p.tables.exec = Jvm.exec) (hb : c.code = cc) (hK : kc_K G s) (hC : kc_at G A H0 S H locs) {k : Nat} (hk : k < 246) {i : Nat} (hi : i < kc_n k) (hdg : decode cc pc = .ok (.iaload, 1))
    (kk : W p l e R s m args below meth c H locs cells slots Q (F0 m (pc + 1) ls (.int (kc_d S k i) :: rest))) : W p l e R s m args below meth c H locs cells slots Q (F0 m pc ls (.int (nI i) :: .ref (kg_a G k) :: rest)) := by
  have hn := kc_n_le k
  refine va_iald hx hb hK hC.1 (3 + k) 0 (kc_pos G S hk) rfl (vp_in_nI hi (by omega)) hdg ?_
  rw [nI_clamp (by omega)]
  exact kk
theorem kr_ast (hx : p.tables.exec = Jvm.exec) (hb : c.code = cc) (hK : kc_K G s) (hC : kc_at G A H0 S H locs) {k : Nat} (hk : k < 246) {i : Nat} (hi : i < kc_n k) {x : Int32} {S' : ks_T} (h1 : upd (kc_d S k) i x = kc_d S' k) (h2 : ∀ j, j < 246 → j ≠ k → kc_d S' j = kc_d S j) (hdg : decode cc pc = .ok (.iastore, 1))
    (kk : ∀ (H1 : Heap) (locs1 : List Loc), kc_at G A H0 S' H1 locs1 → W p l e R s m args below meth c H1 locs1 cells slots Q (F0 m (pc + 1) ls rest)) : W p l e R s m args below meth c H locs cells slots Q (F0 m pc ls (.int x :: .int (nI i) :: .ref (kg_a G k) :: rest)) := by
  have hn := kc_n_le k
  refine va_iast hx hb hK hC.1 hC.2.1 hC.2.2 (3 + k) 0 (kc_pos G S hk) rfl (vp_in_nI hi (by omega)) hdg (fun H1 locs1 hP hD hS => ?_)
  rw [nI_clamp (by omega), kc_set hk h1 h2] at hP hD
  exact kk H1 locs1 ⟨hP, hD, hS⟩
theorem kr_ldP (hx : p.tables.exec = Jvm.exec) (hb : c.code = cc) (hK : kc_K G s) (hC : kc_at G A H0 S H locs) {r : Nat} (hr : r < 40) (hdg : decode cc pc = .ok (.iaload, 1))
    (kk : W p l e R s m args below meth c H locs cells slots Q (F0 m (pc + 1) ls (.int (ks_e (ks_P S r)) :: rest))) : W p l e R s m args below meth c H locs cells slots Q (F0 m pc ls (.int (nI r) :: .ref (kg_a G 0) :: rest)) :=
  kr_ald hx hb hK hC (k := 0) (by omega) (show r < 40 from hr) hdg kk
theorem kr_ldH (hx : p.tables.exec = Jvm.exec) (hb : c.code = cc) (hK : kc_K G s) (hC : kc_at G A H0 S H locs) {f : Nat} (hf : f < 201) (hdg : decode cc pc = .ok (.iaload, 1))
    (kk : W p l e R s m args below meth c H locs cells slots Q (F0 m (pc + 1) ls (.int (nI (ks_H S f)) :: rest))) : W p l e R s m args below meth c H locs cells slots Q (F0 m pc ls (.int (nI f) :: .ref (kg_a G 1) :: rest)) :=
  kr_ald hx hb hK hC (k := 1) (by omega) (show f < 201 from hf) hdg kk
theorem kr_ldA (hx : p.tables.exec = Jvm.exec) (hb : c.code = cc) (hK : kc_K G s) (hC : kc_at G A H0 S H locs) {f : Nat} (hf : f < 32) (hdg : decode cc pc = .ok (.iaload, 1))
    (kk : W p l e R s m args below meth c H locs cells slots Q (F0 m (pc + 1) ls (.int (ks_A S f) :: rest))) : W p l e R s m args below meth c H locs cells slots Q (F0 m pc ls (.int (nI f) :: .ref (kg_a G 2) :: rest)) :=
  kr_ald hx hb hK hC (k := 2) (by omega) (show f < 32 from hf) hdg kk
theorem kr_ldO (hx : p.tables.exec = Jvm.exec) (hb : c.code = cc) (hK : kc_K G s) (hC : kc_at G A H0 S H locs) {f : Nat} (hf : f < 201) (hdg : decode cc pc = .ok (.iaload, 1))
    (kk : W p l e R s m args below meth c H locs cells slots Q (F0 m (pc + 1) ls (.int (ks_O S f) :: rest))) : W p l e R s m args below meth c H locs cells slots Q (F0 m pc ls (.int (nI f) :: .ref (kg_a G 3) :: rest)) :=
  kr_ald hx hb hK hC (k := 3) (by omega) (show f < 201 from hf) hdg kk
theorem kr_ldK (hx : p.tables.exec = Jvm.exec) (hb : c.code = cc) (hK : kc_K G s) (hC : kc_at G A H0 S H locs) {f : Nat} (hf : f < 201) (hdg : decode cc pc = .ok (.iaload, 1))
    (kk : W p l e R s m args below meth c H locs cells slots Q (F0 m (pc + 1) ls (.int (ks_K S f) :: rest))) : W p l e R s m args below meth c H locs cells slots Q (F0 m pc ls (.int (nI f) :: .ref (kg_a G 4) :: rest)) :=
  kr_ald hx hb hK hC (k := 4) (by omega) (show f < 201 from hf) hdg kk
theorem kr_ldF (hx : p.tables.exec = Jvm.exec) (hb : c.code = cc) (hK : kc_K G s) (hC : kc_at G A H0 S H locs) {r q : Nat} (hr : r < 40) (hq : q < 32) (hdg : decode cc pc = .ok (.iaload, 1))
    (kk : W p l e R s m args below meth c H locs cells slots Q (F0 m (pc + 1) ls (.int (nI (ks_F S r q)) :: rest))) : W p l e R s m args below meth c H locs cells slots Q (F0 m pc ls (.int (nI q) :: .ref (kg_a G (5 + r)) :: rest)) := by
  refine kr_ald hx hb hK hC (k := 5 + r) (by omega) (by rw [kc_nF hr]; exact hq) hdg ?_
  rw [kc_dF S q hr]
  exact kk
theorem kr_ldC (hx : p.tables.exec = Jvm.exec) (hb : c.code = cc) (hK : kc_K G s) (hC : kc_at G A H0 S H locs) {f q : Nat} (hf : f < 201) (hq : q < 8) (hdg : decode cc pc = .ok (.iaload, 1))
    (kk : W p l e R s m args below meth c H locs cells slots Q (F0 m (pc + 1) ls (.int (ks_C S f q) :: rest))) : W p l e R s m args below meth c H locs cells slots Q (F0 m pc ls (.int (nI q) :: .ref (kg_a G (45 + f)) :: rest)) := by
  refine kr_ald hx hb hK hC (k := 45 + f) (by omega) (by rw [kc_nC]; exact hq) hdg ?_
  rw [kc_dC S f q]
  exact kk
theorem kc_cF (hC : kc_at G A H0 S H locs) : H[kg_f G]? = some (arrV (kg_J G) 40 (fun j => va_rf (some (kg_a G (5 + j))))) := by
  have h : H[kg_f G]? = some (vp_cell (kg_J G) (40, .inr (.inr (.inr (.inr (fun i => some (kg_a G (5 + i)))))))) := hC.1 1 (kg_f G, .inl (kg_J G, 40, .inr (.inr (.inr (.inr (fun i => some (kg_a G (5 + i)))))))) rfl
  rw [vp_cell_q] at h
  exact h
theorem kc_cC (hC : kc_at G A H0 S H locs) : H[kg_c G]? = some (arrV (kg_J G) 201 (fun j => va_rf (some (kg_a G (45 + j))))) := by
  have h : H[kg_c G]? = some (vp_cell (kg_J G) (201, .inr (.inr (.inr (.inr (fun i => some (kg_a G (45 + i)))))))) := hC.1 2 (kg_c G, .inl (kg_J G, 201, .inr (.inr (.inr (.inr (fun i => some (kg_a G (45 + i)))))))) rfl
  rw [vp_cell_q] at h
  exact h
theorem kr_aF (hx : p.tables.exec = Jvm.exec) (hb : c.code = cc) (hK : kc_K G s) (hC : kc_at G A H0 S H locs) {r : Nat} (hr : r < 40) (hdg : decode cc pc = .ok (.aaload, 1))
    (kk : W p l e R s m args below meth c H locs cells slots Q (F0 m (pc + 1) ls (.ref (kg_a G (5 + r)) :: rest))) : W p l e R s m args below meth c H locs cells slots Q (F0 m pc ls (.int (nI r) :: .ref (kg_f G) :: rest)) := by
  have h1 : ¬ (nI r < 0 ∨ (arrV (kg_J G) 40 (fun j => va_rf (some (kg_a G (5 + j))))).slots.size ≤ (nI r).toNatClampNeg) := by
    rw [arrV_size]
    exact nI_in hr (by omega)
  have h2 : (arrV (kg_J G) 40 (fun j => va_rf (some (kg_a G (5 + j))))).slots[(nI r).toNatClampNeg]? = some (.ref (kg_a G (5 + r))) := by
    rw [nI_clamp (by omega), arrV_read _ _ hr]
    rfl
  have h3 : s.isArrayOf (arrV (kg_J G) 40 (fun j => va_rf (some (kg_a G (5 + j))))) (.array .int) := (hK.2 1 (kg_J G, .array .int) rfl).1 40 (fun j => va_rf (some (kg_a G (5 + j))))
  exact W.aald (ty := .array .int) hx hb (kc_cF hC) h3 rfl (fun q => by cases q) h1 h2 rfl rfl hdg kk
theorem kr_aC (hx : p.tables.exec = Jvm.exec) (hb : c.code = cc) (hK : kc_K G s) (hC : kc_at G A H0 S H locs) {f : Nat} (hf : f < 201) (hdg : decode cc pc = .ok (.aaload, 1))
    (kk : W p l e R s m args below meth c H locs cells slots Q (F0 m (pc + 1) ls (.ref (kg_a G (45 + f)) :: rest))) : W p l e R s m args below meth c H locs cells slots Q (F0 m pc ls (.int (nI f) :: .ref (kg_c G) :: rest)) := by
  have h1 : ¬ (nI f < 0 ∨ (arrV (kg_J G) 201 (fun j => va_rf (some (kg_a G (45 + j))))).slots.size ≤ (nI f).toNatClampNeg) := by
    rw [arrV_size]
    exact nI_in hf (by omega)
  have h2 : (arrV (kg_J G) 201 (fun j => va_rf (some (kg_a G (45 + j))))).slots[(nI f).toNatClampNeg]? = some (.ref (kg_a G (45 + f))) := by
    rw [nI_clamp (by omega), arrV_read _ _ hf]
    rfl
  have h3 : s.isArrayOf (arrV (kg_J G) 201 (fun j => va_rf (some (kg_a G (45 + j))))) (.array .int) := (hK.2 1 (kg_J G, .array .int) rfl).1 201 (fun j => va_rf (some (kg_a G (45 + j))))
  exact W.aald (ty := .array .int) hx hb (kc_cC hC) h3 rfl (fun q => by cases q) h1 h2 rfl rfl hdg kk
theorem kr_stP (hx : p.tables.exec = Jvm.exec) (hb : c.code = cc) (hK : kc_K G s) (hC : kc_at G A H0 S H locs) {r y : Nat} (hr : r < 40) {x : Int32} (hy : x = ks_e y) (hdg : decode cc pc = .ok (.iastore, 1))
    (kk : ∀ (H1 : Heap) (locs1 : List Loc), kc_at G A H0 (ks_sP S r y) H1 locs1 → W p l e R s m args below meth c H1 locs1 cells slots Q (F0 m (pc + 1) ls rest)) : W p l e R s m args below meth c H locs cells slots Q (F0 m pc ls (.int x :: .int (nI r) :: .ref (kg_a G 0) :: rest)) := by
  refine kr_ast hx hb hK hC (k := 0) (by omega) (show r < 40 from hr) ?_ ?_ hdg kk
  · funext j
    show upd (kc_d S 0) r x j = ks_e (ks_uN (ks_P S) r y j)
    unfold upd ks_uN
    by_cases h : j = r
    · rw [if_pos h, if_pos h, hy]
    · rw [if_neg h, if_neg h]
      rfl
  · intro j _ hj
    exact kc_ext (fun h => absurd h hj) (fun _ _ => rfl) (fun _ _ => rfl) (fun _ _ => rfl) (fun _ _ => rfl) (fun _ _ _ _ => rfl) (fun _ _ _ => rfl)
theorem kr_stH (hx : p.tables.exec = Jvm.exec) (hb : c.code = cc) (hK : kc_K G s) (hC : kc_at G A H0 S H locs) {f y : Nat} (hf : f < 201) {x : Int32} (hy : x = nI y) (hdg : decode cc pc = .ok (.iastore, 1))
    (kk : ∀ (H1 : Heap) (locs1 : List Loc), kc_at G A H0 (ks_sH S f y) H1 locs1 → W p l e R s m args below meth c H1 locs1 cells slots Q (F0 m (pc + 1) ls rest)) : W p l e R s m args below meth c H locs cells slots Q (F0 m pc ls (.int x :: .int (nI f) :: .ref (kg_a G 1) :: rest)) := by
  refine kr_ast hx hb hK hC (k := 1) (by omega) (show f < 201 from hf) ?_ ?_ hdg kk
  · funext j
    show upd (kc_d S 1) f x j = nI (ks_uN (ks_H S) f y j)
    unfold upd ks_uN
    by_cases h : j = f
    · rw [if_pos h, if_pos h, hy]
    · rw [if_neg h, if_neg h]
      rfl
  · intro j _ hj
    exact kc_ext (fun _ _ => rfl) (fun h => absurd h hj) (fun _ _ => rfl) (fun _ _ => rfl) (fun _ _ => rfl) (fun _ _ _ _ => rfl) (fun _ _ _ => rfl)
theorem kr_stA (hx : p.tables.exec = Jvm.exec) (hb : c.code = cc) (hK : kc_K G s) (hC : kc_at G A H0 S H locs) {f : Nat} (hf : f < 32) {x : Int32} (hdg : decode cc pc = .ok (.iastore, 1))
    (kk : ∀ (H1 : Heap) (locs1 : List Loc), kc_at G A H0 (ks_sA S f x) H1 locs1 → W p l e R s m args below meth c H1 locs1 cells slots Q (F0 m (pc + 1) ls rest)) : W p l e R s m args below meth c H locs cells slots Q (F0 m pc ls (.int x :: .int (nI f) :: .ref (kg_a G 2) :: rest)) :=
  kr_ast (S' := ks_sA S f x) hx hb hK hC (k := 2) (by omega) (show f < 32 from hf) rfl (fun j _ hj => kc_ext (fun _ _ => rfl) (fun _ _ => rfl) (fun h => absurd h hj) (fun _ _ => rfl) (fun _ _ => rfl) (fun _ _ _ _ => rfl) (fun _ _ _ => rfl)) hdg kk
theorem kr_stO (hx : p.tables.exec = Jvm.exec) (hb : c.code = cc) (hK : kc_K G s) (hC : kc_at G A H0 S H locs) {f : Nat} (hf : f < 201) {x : Int32} (hdg : decode cc pc = .ok (.iastore, 1))
    (kk : ∀ (H1 : Heap) (locs1 : List Loc), kc_at G A H0 (ks_sO S f x) H1 locs1 → W p l e R s m args below meth c H1 locs1 cells slots Q (F0 m (pc + 1) ls rest)) : W p l e R s m args below meth c H locs cells slots Q (F0 m pc ls (.int x :: .int (nI f) :: .ref (kg_a G 3) :: rest)) :=
  kr_ast (S' := ks_sO S f x) hx hb hK hC (k := 3) (by omega) (show f < 201 from hf) rfl (fun j _ hj => kc_ext (fun _ _ => rfl) (fun _ _ => rfl) (fun _ _ => rfl) (fun h => absurd h hj) (fun _ _ => rfl) (fun _ _ _ _ => rfl) (fun _ _ _ => rfl)) hdg kk
theorem kr_stK (hx : p.tables.exec = Jvm.exec) (hb : c.code = cc) (hK : kc_K G s) (hC : kc_at G A H0 S H locs) {f : Nat} (hf : f < 201) {x : Int32} (hdg : decode cc pc = .ok (.iastore, 1))
    (kk : ∀ (H1 : Heap) (locs1 : List Loc), kc_at G A H0 (ks_sK S f x) H1 locs1 → W p l e R s m args below meth c H1 locs1 cells slots Q (F0 m (pc + 1) ls rest)) : W p l e R s m args below meth c H locs cells slots Q (F0 m pc ls (.int x :: .int (nI f) :: .ref (kg_a G 4) :: rest)) :=
  kr_ast (S' := ks_sK S f x) hx hb hK hC (k := 4) (by omega) (show f < 201 from hf) rfl (fun j _ hj => kc_ext (fun _ _ => rfl) (fun _ _ => rfl) (fun _ _ => rfl) (fun _ _ => rfl) (fun h => absurd h hj) (fun _ _ _ _ => rfl) (fun _ _ _ => rfl)) hdg kk
theorem kr_stF (hx : p.tables.exec = Jvm.exec) (hb : c.code = cc) (hK : kc_K G s) (hC : kc_at G A H0 S H locs) {r q y : Nat} (hr : r < 40) (hq : q < 32) {x : Int32} (hy : x = nI y) (hdg : decode cc pc = .ok (.iastore, 1))
    (kk : ∀ (H1 : Heap) (locs1 : List Loc), kc_at G A H0 (ks_sF S r q y) H1 locs1 → W p l e R s m args below meth c H1 locs1 cells slots Q (F0 m (pc + 1) ls rest)) : W p l e R s m args below meth c H locs cells slots Q (F0 m pc ls (.int x :: .int (nI q) :: .ref (kg_a G (5 + r)) :: rest)) := by
  refine kr_ast hx hb hK hC (k := 5 + r) (by omega) (by rw [kc_nF hr]; exact hq) ?_ ?_ hdg kk
  · funext j
    rw [kc_dF _ _ hr]
    show upd (kc_d S (5 + r)) q x j = nI (cn_u (ks_F S) r q y r j)
    unfold upd
    by_cases h : j = q
    · subst h
      rw [if_pos rfl, cn_u_s, hy]
    · rw [if_neg h, cn_u_n (fun z => h z.2), kc_dF _ _ hr]
  · intro j _ hj
    refine kc_ext (fun _ _ => rfl) (fun _ _ => rfl) (fun _ _ => rfl) (fun _ _ => rfl) (fun _ _ => rfl) (fun a ha _ i => ?_) (fun _ _ _ => rfl)
    exact cn_u_n (fun z => hj (by rw [ha, z.1]))
theorem kr_stC (hx : p.tables.exec = Jvm.exec) (hb : c.code = cc) (hK : kc_K G s) (hC : kc_at G A H0 S H locs) {f q : Nat} (hf : f < 201) (hq : q < 8) {x : Int32} (hdg : decode cc pc = .ok (.iastore, 1))
    (kk : ∀ (H1 : Heap) (locs1 : List Loc), kc_at G A H0 (ks_sC S f q x) H1 locs1 → W p l e R s m args below meth c H1 locs1 cells slots Q (F0 m (pc + 1) ls rest)) : W p l e R s m args below meth c H locs cells slots Q (F0 m pc ls (.int x :: .int (nI q) :: .ref (kg_a G (45 + f)) :: rest)) := by
  refine kr_ast hx hb hK hC (k := 45 + f) (by omega) (by rw [kc_nC]; exact hq) ?_ ?_ hdg kk
  · funext j
    rw [kc_dC]
    show upd (kc_d S (45 + f)) q x j = ks_uC (ks_C S) f q x f j
    unfold upd ks_uC
    by_cases h : j = q
    · rw [if_pos h, if_pos ⟨rfl, h⟩]
    · rw [if_neg h, if_neg (fun z => h z.2), kc_dC]
  · intro j _ hj
    refine kc_ext (fun _ _ => rfl) (fun _ _ => rfl) (fun _ _ => rfl) (fun _ _ => rfl) (fun _ _ => rfl) (fun _ _ _ _ => rfl) (fun a ha i => ?_)
    exact if_neg (fun z => hj (by rw [ha, z.1]))
end KR
