/-! the class's methods that don't throw (laid by program) -/
set_option maxHeartbeats 4000000 in
set_option maxRecDepth 100000 in
/-- hold(f): one holder more, but of frame 0 -/
theorem k0_hold (l : Launch) (G : kg_T) (S : ks_T) (f : Nat) (hf : f < 201) : Met l yX0_hold wX0_hold ({ frames := 0, cells := 0, slots := 0, locals := 0 }) (va_Pc [.ref (kg_h G), .int (nI f)] (kc_p G S)) (va_Qv (fun S' : ks_T => S' = ks_hd S f) (kc_q G) (kg_A G)) 0 0 (kg_A G) := by
  refine Met.ofW (cc := cX0_hold) (maxL := 2) (ret := none) (by decide) rfl ?_
  intro p e s m args below meth c s₁ B hml hv
  obtain ⟨rfl, hv⟩ := hv
  have hx := B.exec
  have hb := B.bytes
  have hr := B.returns
  have hlk := B.notSynchronized
  have hts := atoms_spec (ws := wX0_hold) B.pre
  have hT : ∀ w ∈ nw_T, w.before _ s = true := fun w h => hts w (List.mem_cons_of_mem _ h)
  have hown : s.vm.findClass RX0 = some m.cls := findClass_of_methodNamed B.named
  have hK : kc_K G s := hv.2.2
  have hC := kc_start hv
  have hl := lv_entry ([.ref (kg_h G), .int (nI f)]) (n := 2) (Nat.le_of_ble_eq_true rfl)
  rw [lg_entry_eq]
  generalize (lg_sl ([.ref (kg_h G), .int (nI f)]) ++ List.replicate (2 - (lg_sl ([.ref (kg_h G), .int (nI f)])).length) Slot.unset).toArray = ls at hl ⊢
  have hl : lv_has ls 2 [(0, .ref (kg_h G)), (1, .int (nI f))] := hl
  refine lv_iload_n hx hb dX0_hold_0 rfl (lv_at hl 1 rfl) ?_
  refine wn_if0 (tgt := 14) hx hb (by omega) dX0_hold_1 rfl (fun h0 => ?_) (fun h0 => ?_)
  · subst h0
    exact kr_vret hx hb hr hlk hC (rfl) dX0_hold_14
  · refine lv_aload_n hx hb dX0_hold_4 rfl (lv_at hl 0 rfl) ?_
    refine kr_get hx hb hT kx_in hown hK hC 3 (by decide) (hT _ mw_28) rfl rfl dX0_hold_5 ?_
    refine lv_iload_n hx hb dX0_hold_8 rfl (lv_at hl 1 rfl) ?_
    refine lv_dup2_11 hx hb dX0_hold_9 rfl rfl ?_
    refine kr_ldH hx hb hK hC (by omega) dX0_hold_10 ?_
    refine lv_iconst (v := (nI 1)) hx hb dX0_hold_11 (by decide +kernel) ?_
    refine wn_add hx hb dX0_hold_12 ?_
    refine kr_stH (y := (ks_H S f) + 1) hx hb hK hC (by omega) rfl dX0_hold_13 (fun H locs hC => ?_)
    exact kr_vret hx hb hr hlk hC (by unfold ks_hd; rw [kp_hs h0]; rfl) dX0_hold_14
set_option maxHeartbeats 4000000 in
set_option maxRecDepth 100000 in
/-- letGo(f): one holder less; 1 if that was the last -/
theorem k0_letGo (l : Launch) (G : kg_T) (S : ks_T) (f : Nat) (hf : f < 201) (h1 : f ≠ 0 → 1 ≤ ks_H S f) (h2 : ks_H S f < 2 ^ 31) : Met l yX0_letGo wX0_letGo ({ frames := 0, cells := 0, slots := 0, locals := 0 }) (va_Pc [.ref (kg_h G), .int (nI f)] (kc_p G S)) (va_Qi (fun (v : Int32) (S' : ks_T) => v = nI (kp_w (ks_H S) f) ∧ S' = ks_lg S f) (kc_q G) (kg_A G)) 0 0 (kg_A G) := by
  refine Met.ofW (cc := cX0_letGo) (maxL := 2) (ret := (some .int)) (by decide) rfl ?_
  intro p e s m args below meth c s₁ B hml hv
  obtain ⟨rfl, hv⟩ := hv
  have hx := B.exec
  have hb := B.bytes
  have hr := B.returns
  have hlk := B.notSynchronized
  have hts := atoms_spec (ws := wX0_letGo) B.pre
  have hT : ∀ w ∈ nw_T, w.before _ s = true := fun w h => hts w (List.mem_cons_of_mem _ h)
  have hown : s.vm.findClass RX0 = some m.cls := findClass_of_methodNamed B.named
  have hK : kc_K G s := hv.2.2
  have hC := kc_start hv
  have hl := lv_entry ([.ref (kg_h G), .int (nI f)]) (n := 2) (Nat.le_of_ble_eq_true rfl)
  rw [lg_entry_eq]
  generalize (lg_sl ([.ref (kg_h G), .int (nI f)]) ++ List.replicate (2 - (lg_sl ([.ref (kg_h G), .int (nI f)])).length) Slot.unset).toArray = ls at hl ⊢
  have hl : lv_has ls 2 [(0, .ref (kg_h G)), (1, .int (nI f))] := hl
  refine lv_iload_n hx hb dX0_letGo_0 rfl (lv_at hl 1 rfl) ?_
  refine wn_if1 (tgt := 6) hx hb (by omega) dX0_letGo_1 rfl (fun h0 => ?_) (fun h0 => ?_)
  · have h1 := h1 h0
    refine lv_aload_n hx hb dX0_letGo_6 rfl (lv_at hl 0 rfl) ?_
    refine kr_get hx hb hT kx_in hown hK hC 3 (by decide) (hT _ mw_28) rfl rfl dX0_letGo_7 ?_
    refine lv_iload_n hx hb dX0_letGo_10 rfl (lv_at hl 1 rfl) ?_
    refine lv_dup2_11 hx hb dX0_letGo_11 rfl rfl ?_
    refine kr_ldH hx hb hK hC (by omega) dX0_letGo_12 ?_
    refine lv_iconst (v := (nI 1)) hx hb dX0_letGo_13 (by decide +kernel) ?_
    refine wn_sub hx hb h1 dX0_letGo_14 ?_
    refine kr_stH (y := (ks_H S f) - 1) hx hb hK hC (by omega) rfl dX0_letGo_15 (fun H locs hC => ?_)
    obtain ⟨S1, hS1⟩ : ∃ z, z = (ks_sH S f ((ks_H S f) - 1)) := ⟨_, rfl⟩
    rw [← hS1] at hC
    refine lv_aload_n hx hb dX0_letGo_16 rfl (lv_at hl 0 rfl) ?_
    refine kr_get hx hb hT kx_in hown hK hC 3 (by decide) (hT _ mw_28) rfl rfl dX0_letGo_17 ?_
    refine lv_iload_n hx hb dX0_letGo_20 rfl (lv_at hl 1 rfl) ?_
    refine kr_ldH hx hb hK hC (by omega) dX0_letGo_21 ?_
    have e1 : ks_H S1 f = ks_H S f - 1 := by rw [hS1]; exact if_pos rfl
    have e2 : S1 = ks_lg S f := by rw [hS1]; unfold ks_lg; rw [kp_ls h0]; rfl
    rw [e1]
    refine wn_if1 (tgt := 29) hx hb (by omega) dX0_letGo_22 rfl (fun h3 => ?_) (fun h3 => ?_)
    · refine lv_iconst (v := (nI 0)) hx hb dX0_letGo_29 (by decide +kernel) ?_
      exact kr_iret hx hb hr hlk hC (⟨by unfold kp_w; rw [if_neg h0, if_neg h3], e2⟩) dX0_letGo_30
    · refine lv_iconst (v := (nI 1)) hx hb dX0_letGo_25 (by decide +kernel) ?_
      refine lv_goto (tgt := 30) hx hb dX0_letGo_26 rfl ?_
      exact kr_iret hx hb hr hlk hC (⟨by unfold kp_w; rw [if_neg h0, if_pos h3], e2⟩) dX0_letGo_30
  · subst h0
    refine lv_iconst (v := (nI 0)) hx hb dX0_letGo_4 (by decide +kernel) ?_
    exact kr_iret hx hb hr hlk hC (⟨rfl, rfl⟩) dX0_letGo_5
set_option maxHeartbeats 4000000 in
set_option maxRecDepth 100000 in
/-- pointTo(r, q, g): the page has the frame g; 1 if the old frame went -/
theorem k0_pointTo (l : Launch) (G : kg_T) (S : ks_T) (r q g : Nat) (h40 : r < 40) (h32 : q < 32) (hg : g < 201) (hF : ks_F S r q < 201) (h1 : ks_F S r q ≠ 0 → 1 ≤ kp_h (ks_H S) g (ks_F S r q)) (h2 : kp_h (ks_H S) g (ks_F S r q) < 2 ^ 31) : Met l yX0_pointTo wX0_pointTo ({ frames := 1, cells := 0, slots := 0, locals := 32 }) (va_Pc [.ref (kg_h G), .int (nI r), .int (nI q), .int (nI g)] (kc_p G S)) (va_Qi (fun (v : Int32) (S' : ks_T) => v = nI (kp_w (kp_h (ks_H S) g) (ks_F S r q)) ∧ S' = ks_pt S r q g) (kc_q G) (kg_A G)) 0 0 (kg_A G) := by
  refine Met.ofW (cc := cX0_pointTo) (maxL := 5) (ret := (some .int)) (by decide) rfl ?_
  intro p e s m args below meth c s₁ B hml hv
  obtain ⟨rfl, hv⟩ := hv
  have hx := B.exec
  have hb := B.bytes
  have hr := B.returns
  have hlk := B.notSynchronized
  have hts := atoms_spec (ws := wX0_pointTo) B.pre
  have hT : ∀ w ∈ nw_T, w.before _ s = true := fun w h => hts w (List.mem_cons_of_mem _ h)
  have hown : s.vm.findClass RX0 = some m.cls := findClass_of_methodNamed B.named
  have hK : kc_K G s := hv.2.2
  have hC := kc_start hv
  have hl := lv_entry ([.ref (kg_h G), .int (nI r), .int (nI q), .int (nI g)]) (n := 5) (Nat.le_of_ble_eq_true rfl)
  rw [lg_entry_eq]
  generalize (lg_sl ([.ref (kg_h G), .int (nI r), .int (nI q), .int (nI g)]) ++ List.replicate (5 - (lg_sl ([.ref (kg_h G), .int (nI r), .int (nI q), .int (nI g)])).length) Slot.unset).toArray = ls at hl ⊢
  have hl : lv_has ls 5 [(0, .ref (kg_h G)), (1, .int (nI r)), (2, .int (nI q)), (3, .int (nI g))] := hl
  refine lv_aload_n hx hb dX0_pointTo_0 rfl (lv_at hl 0 rfl) ?_
  refine kr_get hx hb hT kx_in hown hK hC 1 (by decide) (hT _ mw_26) rfl rfl dX0_pointTo_1 ?_
  refine lv_iload_n hx hb dX0_pointTo_4 rfl (lv_at hl 1 rfl) ?_
  refine kr_aF hx hb hK hC (by omega) dX0_pointTo_5 ?_
  refine lv_iload_n hx hb dX0_pointTo_6 rfl (lv_at hl 2 rfl) ?_
  refine kr_ldF hx hb hK hC (by omega) (by omega) dX0_pointTo_7 ?_
  refine lv_istore (lv' := [(4, .int (nI (ks_F S r q))), (0, .ref (kg_h G)), (1, .int (nI r)), (2, .int (nI q)), (3, .int (nI g))]) hx hb dX0_pointTo_8 hl (by decide) rfl (fun ls hl => ?_)
  refine lv_aload_n hx hb dX0_pointTo_10 rfl (lv_at hl 1 rfl) ?_
  refine lv_iload_n hx hb dX0_pointTo_11 rfl (lv_at hl 4 rfl) ?_
  refine kr_cv (As := [.int (nI g)]) (rest := []) ⟨hx, hb, hml, hown, hts⟩ (k0_hold l G S g hg) (cwV 1 hts gX0_76 rfl rfl rfl hX0_hold ⟨Nat.le_of_ble_eq_true rfl, Nat.le_of_ble_eq_true rfl⟩) hK hC rfl hl.1 rfl (Nat.le_of_ble_eq_true rfl) dX0_pointTo_12 ⟨Nat.zero_le _, Nat.zero_le _⟩ (fun S1 H locs hp hC => ?_)
  subst hp
  refine lv_aload_n hx hb dX0_pointTo_15 rfl (lv_at hl 1 rfl) ?_
  refine kr_get hx hb hT kx_in hown hK hC 1 (by decide) (hT _ mw_26) rfl rfl dX0_pointTo_16 ?_
  refine lv_iload_n hx hb dX0_pointTo_19 rfl (lv_at hl 2 rfl) ?_
  refine kr_aF hx hb hK hC (by omega) dX0_pointTo_20 ?_
  refine lv_iload_n hx hb dX0_pointTo_21 rfl (lv_at hl 3 rfl) ?_
  refine lv_iload_n hx hb dX0_pointTo_22 rfl (lv_at hl 4 rfl) ?_
  refine kr_stF hx hb hK hC (by omega) (by omega) rfl dX0_pointTo_23 (fun H locs hC => ?_)
  refine lv_aload_n hx hb dX0_pointTo_24 rfl (lv_at hl 1 rfl) ?_
  refine lv_iload hx hb dX0_pointTo_25 (lv_at hl 0 rfl) ?_
  refine kr_ci (As := [.int (nI (ks_F S r q))]) (rest := []) ⟨hx, hb, hml, hown, hts⟩ (k0_letGo l G (ks_sF (ks_hd S g) r q g) (ks_F S r q) hF h1 h2) (cwV 1 hts gX0_79 rfl rfl rfl hX0_letGo ⟨Nat.le_of_ble_eq_true rfl, Nat.le_of_ble_eq_true rfl⟩) hK hC rfl hl.1 rfl (Nat.le_of_ble_eq_true rfl) dX0_pointTo_27 ⟨Nat.zero_le _, Nat.zero_le _⟩ (fun v S1 H locs hp hC => ?_)
  exact kr_iret hx hb hr hlk hC (hp) dX0_pointTo_30
set_option maxHeartbeats 4000000 in
set_option maxRecDepth 100000 in
/-- isRow(x) -/
theorem k0_isRow (l : Launch) (G : kg_T) (S : ks_T) (x : Int32) (hP : ∀ r, r < 40 → ks_P S r ≤ 33) : Met l yX0_isRow wX0_isRow ({ frames := 0, cells := 0, slots := 0, locals := 0 }) (va_Pc [.ref (kg_h G), .int x] (kc_p G S)) (va_Qi (fun (v : Int32) (S' : ks_T) => v = (if ks_row S x = true then 1 else 0) ∧ S' = S) (kc_q G) (kg_A G)) 0 0 (kg_A G) := by
  refine Met.ofW (cc := cX0_isRow) (maxL := 2) (ret := (some .boolean)) (by decide) rfl ?_
  intro p e s m args below meth c s₁ B hml hv
  obtain ⟨rfl, hv⟩ := hv
  have hx := B.exec
  have hb := B.bytes
  have hr := B.returns
  have hlk := B.notSynchronized
  have hts := atoms_spec (ws := wX0_isRow) B.pre
  have hT : ∀ w ∈ nw_T, w.before _ s = true := fun w h => hts w (List.mem_cons_of_mem _ h)
  have hown : s.vm.findClass RX0 = some m.cls := findClass_of_methodNamed B.named
  have hK : kc_K G s := hv.2.2
  have hC := kc_start hv
  have hl := lv_entry ([.ref (kg_h G), .int x]) (n := 2) (Nat.le_of_ble_eq_true rfl)
  rw [lg_entry_eq]
  generalize (lg_sl ([.ref (kg_h G), .int x]) ++ List.replicate (2 - (lg_sl ([.ref (kg_h G), .int x])).length) Slot.unset).toArray = ls at hl ⊢
  have hl : lv_has ls 2 [(0, .ref (kg_h G)), (1, .int x)] := hl
  rcases pk_ix x (n := 40) (by omega) with h | h | ⟨j, hj, rfl⟩
  · refine lv_iload_n hx hb dX0_isRow_0 rfl (lv_at hl 1 rfl) ?_
    refine lv_if_lt (tgt := 24) hx hb dX0_isRow_1 rfl (fun _ => ?_) (fun h9 => absurd h h9)
    refine lv_iconst (v := (nI 0)) hx hb dX0_isRow_24 (by decide +kernel) ?_
    have e : ks_row S x = false := ks_row_lo h
    exact kr_zret hx hb hr hlk hC (by decide +kernel) (⟨by rw [e]; exact nI_0, rfl⟩) dX0_isRow_25
  · refine lv_iload_n hx hb dX0_isRow_0 rfl (lv_at hl 1 rfl) ?_
    have h0 : ¬ x < 0 := ks_nlt (by omega) h
    refine lv_if_lt (tgt := 24) hx hb dX0_isRow_1 rfl (fun h9 => absurd h9 h0) (fun _ => ?_)
    refine lv_iload_n hx hb dX0_isRow_4 rfl (lv_at hl 1 rfl) ?_
    refine lv_bipush (v := (nI 40)) hx hb dX0_isRow_5 (by decide +kernel) ?_
    refine lv_icmp_ge (tgt := 24) hx hb dX0_isRow_7 rfl (fun _ => ?_) (fun h9 => absurd h h9)
    refine lv_iconst (v := (nI 0)) hx hb dX0_isRow_24 (by decide +kernel) ?_
    have e : ks_row S x = false := ks_row_hi h
    exact kr_zret hx hb hr hlk hC (by decide +kernel) (⟨by rw [e]; exact nI_0, rfl⟩) dX0_isRow_25
  · refine lv_iload_n hx hb dX0_isRow_0 rfl (lv_at hl 1 rfl) ?_
    have h0 : ¬ nI j < 0 := nI_pos (by omega)
    refine lv_if_lt (tgt := 24) hx hb dX0_isRow_1 rfl (fun h9 => absurd h9 h0) (fun _ => ?_)
    refine lv_iload_n hx hb dX0_isRow_4 rfl (lv_at hl 1 rfl) ?_
    refine lv_bipush (v := (nI 40)) hx hb dX0_isRow_5 (by decide +kernel) ?_
    refine wn_ge (tgt := 24) hx hb (by omega) (by omega) dX0_isRow_7 rfl (fun h9 => absurd h9 (by omega)) (fun _ => ?_)
    refine lv_aload_n hx hb dX0_isRow_10 rfl (lv_at hl 0 rfl) ?_
    refine kr_get hx hb hT kx_in hown hK hC 0 (by decide) (hT _ mw_25) rfl rfl dX0_isRow_11 ?_
    refine lv_iload_n hx hb dX0_isRow_14 rfl (lv_at hl 1 rfl) ?_
    refine kr_ldP hx hb hK hC (by omega) dX0_isRow_15 ?_
    refine lv_iconst (v := (-1)) hx hb dX0_isRow_16 (by decide +kernel) ?_
    refine lv_icmp_eq (tgt := 24) hx hb dX0_isRow_17 rfl (fun h3 => ?_) (fun h3 => ?_)
    · refine lv_iconst (v := (nI 0)) hx hb dX0_isRow_24 (by decide +kernel) ?_
      have e : ks_row S (nI j) = false := by rw [ks_row_at hj]; exact decide_eq_false (fun z => z ((ks_e0 (hP j hj)).mp h3))
      exact kr_zret hx hb hr hlk hC (by decide +kernel) (⟨by rw [e]; exact nI_0, rfl⟩) dX0_isRow_25
    · refine lv_iconst (v := (nI 1)) hx hb dX0_isRow_20 (by decide +kernel) ?_
      refine lv_goto (tgt := 25) hx hb dX0_isRow_21 rfl ?_
      have e : ks_row S (nI j) = true := by rw [ks_row_at hj]; exact decide_eq_true (fun z => h3 ((ks_e0 (hP j hj)).mpr z))
      exact kr_zret hx hb hr hlk hC (by decide +kernel) (⟨by rw [e]; rfl, rfl⟩) dX0_isRow_25
set_option maxHeartbeats 4000000 in
set_option maxRecDepth 100000 in
/-- hasFrameAlone(r, q) -/
theorem k0_hasFrameAlone (l : Launch) (G : kg_T) (S : ks_T) (r q : Nat) (h40 : r < 40) (h32 : q < 32) (hF : ks_F S r q < 201) (hH : ks_H S (ks_F S r q) < 2 ^ 31) : Met l yX0_hasFrameAlone wX0_hasFrameAlone ({ frames := 0, cells := 0, slots := 0, locals := 0 }) (va_Pc [.ref (kg_h G), .int (nI r), .int (nI q)] (kc_p G S)) (va_Qi (fun (v : Int32) (S' : ks_T) => v = (if ks_H S (ks_F S r q) = 1 then 1 else 0) ∧ S' = S) (kc_q G) (kg_A G)) 0 0 (kg_A G) := by
  refine Met.ofW (cc := cX0_hasFrameAlone) (maxL := 3) (ret := (some .boolean)) (by decide) rfl ?_
  intro p e s m args below meth c s₁ B hml hv
  obtain ⟨rfl, hv⟩ := hv
  have hx := B.exec
  have hb := B.bytes
  have hr := B.returns
  have hlk := B.notSynchronized
  have hts := atoms_spec (ws := wX0_hasFrameAlone) B.pre
  have hT : ∀ w ∈ nw_T, w.before _ s = true := fun w h => hts w (List.mem_cons_of_mem _ h)
  have hown : s.vm.findClass RX0 = some m.cls := findClass_of_methodNamed B.named
  have hK : kc_K G s := hv.2.2
  have hC := kc_start hv
  have hl := lv_entry ([.ref (kg_h G), .int (nI r), .int (nI q)]) (n := 3) (Nat.le_of_ble_eq_true rfl)
  rw [lg_entry_eq]
  generalize (lg_sl ([.ref (kg_h G), .int (nI r), .int (nI q)]) ++ List.replicate (3 - (lg_sl ([.ref (kg_h G), .int (nI r), .int (nI q)])).length) Slot.unset).toArray = ls at hl ⊢
  have hl : lv_has ls 3 [(0, .ref (kg_h G)), (1, .int (nI r)), (2, .int (nI q))] := hl
  refine lv_aload_n hx hb dX0_hasFrameAlone_0 rfl (lv_at hl 0 rfl) ?_
  refine kr_get hx hb hT kx_in hown hK hC 3 (by decide) (hT _ mw_28) rfl rfl dX0_hasFrameAlone_1 ?_
  refine lv_aload_n hx hb dX0_hasFrameAlone_4 rfl (lv_at hl 0 rfl) ?_
  refine kr_get hx hb hT kx_in hown hK hC 1 (by decide) (hT _ mw_26) rfl rfl dX0_hasFrameAlone_5 ?_
  refine lv_iload_n hx hb dX0_hasFrameAlone_8 rfl (lv_at hl 1 rfl) ?_
  refine kr_aF hx hb hK hC (by omega) dX0_hasFrameAlone_9 ?_
  refine lv_iload_n hx hb dX0_hasFrameAlone_10 rfl (lv_at hl 2 rfl) ?_
  refine kr_ldF hx hb hK hC (by omega) (by omega) dX0_hasFrameAlone_11 ?_
  refine kr_ldH hx hb hK hC (by omega) dX0_hasFrameAlone_12 ?_
  refine lv_iconst (v := (nI 1)) hx hb dX0_hasFrameAlone_13 (by decide +kernel) ?_
  refine wn_ne (tgt := 21) hx hb (by omega) (by omega) dX0_hasFrameAlone_14 rfl (fun h3 => ?_) (fun h3 => ?_)
  · refine lv_iconst (v := (nI 0)) hx hb dX0_hasFrameAlone_21 (by decide +kernel) ?_
    exact kr_zret hx hb hr hlk hC (by decide +kernel) (⟨by rw [if_neg h3]; rfl, rfl⟩) dX0_hasFrameAlone_22
  · refine lv_iconst (v := (nI 1)) hx hb dX0_hasFrameAlone_17 (by decide +kernel) ?_
    refine lv_goto (tgt := 22) hx hb dX0_hasFrameAlone_18 rfl ?_
    exact kr_zret hx hb hr hlk hC (by decide +kernel) (⟨by rw [if_pos h3]; rfl, rfl⟩) dX0_hasFrameAlone_22
set_option maxHeartbeats 4000000 in
set_option maxRecDepth 100000 in
/-- sameCells(f, g) -/
theorem k0_sameCells (l : Launch) (G : kg_T) (S : ks_T) (f g : Nat) (hf : f < 201) (hg : g < 201) : Met l yX0_sameCells wX0_sameCells ({ frames := 0, cells := 0, slots := 0, locals := 0 }) (va_Pc [.ref (kg_h G), .int (nI f), .int (nI g)] (kc_p G S)) (va_Qi (fun (v : Int32) (S' : ks_T) => v = (if ks_same S f g = true then 1 else 0) ∧ S' = S) (kc_q G) (kg_A G)) 0 0 (kg_A G) := by
  refine Met.ofW (cc := cX0_sameCells) (maxL := 4) (ret := (some .boolean)) (by decide) rfl ?_
  intro p e s m args below meth c s₁ B hml hv
  obtain ⟨rfl, hv⟩ := hv
  have hx := B.exec
  have hb := B.bytes
  have hr := B.returns
  have hlk := B.notSynchronized
  have hts := atoms_spec (ws := wX0_sameCells) B.pre
  have hT : ∀ w ∈ nw_T, w.before _ s = true := fun w h => hts w (List.mem_cons_of_mem _ h)
  have hown : s.vm.findClass RX0 = some m.cls := findClass_of_methodNamed B.named
  have hK : kc_K G s := hv.2.2
  have hC := kc_start hv
  have hl := lv_entry ([.ref (kg_h G), .int (nI f), .int (nI g)]) (n := 4) (Nat.le_of_ble_eq_true rfl)
  rw [lg_entry_eq]
  generalize (lg_sl ([.ref (kg_h G), .int (nI f), .int (nI g)]) ++ List.replicate (4 - (lg_sl ([.ref (kg_h G), .int (nI f), .int (nI g)])).length) Slot.unset).toArray = ls at hl ⊢
  have hl : lv_has ls 4 [(0, .ref (kg_h G)), (1, .int (nI f)), (2, .int (nI g))] := hl
  refine lv_iconst (v := (nI 0)) hx hb dX0_sameCells_0 (by decide +kernel) ?_
  refine lv_istore_n (lv' := [(3, .int (nI 0)), (0, .ref (kg_h G)), (1, .int (nI f)), (2, .int (nI g))]) hx hb dX0_sameCells_1 rfl hl (by decide) rfl (fun ls hl => ?_)
  have loop : ∀ (n : Nat) (i : Nat) (ls : Array Slot) (H : Heap) (locs : List Loc), i + n = 8 → (∀ j, j < i → ks_C S f j = ks_C S g j) → lv_has ls 4 [(3, .int (nI i)), (0, .ref (kg_h G)), (1, .int (nI f)), (2, .int (nI g))] → kc_at G (kg_A G) s.heap S H locs → W p l e (headSpec wX0_sameCells ({ frames := 0, cells := 0, slots := 0, locals := 0 })).room s m [.ref (kg_h G), .int (nI f), .int (nI g)].toArray below meth c H locs 0 0 (MQ below (va_Qi (fun (v : Int32) (S' : ks_T) => v = (if ks_same S f g = true then 1 else 0) ∧ S' = S) (kc_q G) (kg_A G)) [.ref (kg_h G), .int (nI f), .int (nI g)].toArray s 0 0 (kg_A G)) (F0 m 2 ls []) := by
    intro n
    induction n with
    | zero =>
      intro i ls H locs hm hI hl hC
      refine lv_iload_n hx hb dX0_sameCells_2 rfl (lv_at hl 0 rfl) ?_
      refine lv_bipush (v := (nI 8)) hx hb dX0_sameCells_3 (by decide +kernel) ?_
      refine wn_ge (tgt := 35) hx hb (by omega) (by omega) dX0_sameCells_5 rfl (fun _ => ?_) (fun h9 => absurd h9 (by omega))
      refine lv_iconst (v := (nI 1)) hx hb dX0_sameCells_35 (by decide +kernel) ?_
      have e : ks_same S f g = true := ks_same_t (fun j hj => hI j (by omega))
      exact kr_zret hx hb hr hlk hC (by decide +kernel) (⟨by rw [e]; rfl, rfl⟩) dX0_sameCells_36
    | succ n ih =>
      intro i ls H locs hm hI hl hC
      refine lv_iload_n hx hb dX0_sameCells_2 rfl (lv_at hl 0 rfl) ?_
      refine lv_bipush (v := (nI 8)) hx hb dX0_sameCells_3 (by decide +kernel) ?_
      refine wn_ge (tgt := 35) hx hb (by omega) (by omega) dX0_sameCells_5 rfl (fun h9 => absurd h9 (by omega)) (fun _ => ?_)
      refine lv_aload_n hx hb dX0_sameCells_8 rfl (lv_at hl 1 rfl) ?_
      refine kr_get hx hb hT kx_in hown hK hC 2 (by decide) (hT _ mw_27) rfl rfl dX0_sameCells_9 ?_
      refine lv_iload_n hx hb dX0_sameCells_12 rfl (lv_at hl 2 rfl) ?_
      refine kr_aC hx hb hK hC (by omega) dX0_sameCells_13 ?_
      refine lv_iload_n hx hb dX0_sameCells_14 rfl (lv_at hl 0 rfl) ?_
      refine kr_ldC hx hb hK hC (by omega) (by omega) dX0_sameCells_15 ?_
      refine lv_aload_n hx hb dX0_sameCells_16 rfl (lv_at hl 1 rfl) ?_
      refine kr_get hx hb hT kx_in hown hK hC 2 (by decide) (hT _ mw_27) rfl rfl dX0_sameCells_17 ?_
      refine lv_iload_n hx hb dX0_sameCells_20 rfl (lv_at hl 3 rfl) ?_
      refine kr_aC hx hb hK hC (by omega) dX0_sameCells_21 ?_
      refine lv_iload_n hx hb dX0_sameCells_22 rfl (lv_at hl 0 rfl) ?_
      refine kr_ldC hx hb hK hC (by omega) (by omega) dX0_sameCells_23 ?_
      refine lv_icmp_eq (tgt := 29) hx hb dX0_sameCells_24 rfl (fun h3 => ?_) (fun h3 => ?_)
      · refine lv_iinc (lv' := [(3, .int (nI (i + 1))), (0, .ref (kg_h G)), (1, .int (nI f)), (2, .int (nI g))]) (v := (nI (i + 1))) (k := 0) hx hb dX0_sameCells_29 hl rfl (nI_1 _) (by decide) rfl (fun ls hl => ?_)
        refine lv_goto (tgt := 2) hx hb dX0_sameCells_32 rfl ?_
        exact ih (i + 1) ls H locs (by omega) (lt_s hI h3) hl hC
      · have e : ks_same S f g = false := ks_same_f (j := i) (by omega) h3
        refine lv_iconst (v := (nI 0)) hx hb dX0_sameCells_27 (by decide +kernel) ?_
        exact kr_zret hx hb hr hlk hC (by decide +kernel) (⟨by rw [e]; rfl, rfl⟩) dX0_sameCells_28
  exact loop 8 0 ls s.heap [] rfl lt_0 hl hC
