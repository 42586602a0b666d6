/-! the reference's small methods (laid by program) -/
set_option maxHeartbeats 4000000 in
set_option maxRecDepth 100000 in
/-- thrown() -/
theorem k1_thrown (l : Launch) (G : mg_T) (S : ms_T)  : Met l yX1_thrown wX1_thrown ({ frames := 0, cells := 0, slots := 0, locals := 0 }) (va_Pc [.ref (mg_h G)] (mc_p G S)) (va_Qi (fun (v : Int32) (S' : ms_T) => v = nI (ms_t S) ∧ S' = S) (mc_q G) (mg_A G)) 0 0 (mg_A G) := by
  refine Met.ofW (cc := cX1_thrown) (maxL := 1) (ret := (some .int)) (by decide) rfl ?_
  intro p e s m args below meth c s₁ B hml hv
  obtain ⟨rfl, hv⟩ := hv
  have hx := B.exec
  have hb := B.bytes
  have hr := B.returns
  have hlk := B.notSynchronized
  have hts := atoms_spec (ws := wX1_thrown) B.pre
  have hT : ∀ w ∈ nw_T, w.before _ s = true := fun w h => hts w (List.mem_cons_of_mem _ h)
  have hown : s.vm.findClass RX1 = some m.cls := findClass_of_methodNamed B.named
  have hK : mc_K G s := hv.2.2
  have hC := mc_start hv
  have hl := lv_entry ([.ref (mg_h G)]) (n := 1) (Nat.le_of_ble_eq_true rfl)
  rw [lg_entry_eq]
  generalize (lg_sl ([.ref (mg_h G)]) ++ List.replicate (1 - (lg_sl ([.ref (mg_h G)])).length) Slot.unset).toArray = ls at hl ⊢
  have hl : lv_has ls 1 [(0, .ref (mg_h G))] := hl
  refine lv_aload_n hx hb dX1_thrown_0 rfl (lv_at hl 0 rfl) ?_
  refine mr_get (v := .int (nI (ms_t S))) hx hb hT mx_in hown hK hC 0 (by decide) (hT _ mw_370) rfl rfl dX1_thrown_1 ?_
  exact mr_iret hx hb hr hlk hC (⟨rfl, rfl⟩) dX1_thrown_4
set_option maxHeartbeats 4000000 in
set_option maxRecDepth 100000 in
/-- fail(k) -/
theorem k1_fail (l : Launch) (G : mg_T) (S : ms_T) (k : Nat) : Met l yX1_fail wX1_fail ({ frames := 0, cells := 0, slots := 0, locals := 0 }) (va_Pc [.ref (mg_h G), .int (nI k)] (mc_p G S)) (va_Qi (fun (v : Int32) (S' : ms_T) => v = nI 0 ∧ S' = ms_st S k) (mc_q G) (mg_A G)) 0 0 (mg_A G) := by
  refine Met.ofW (cc := cX1_fail) (maxL := 2) (ret := (some .int)) (by decide) rfl ?_
  intro p e s m args below meth c s₁ B hml hv
  obtain ⟨rfl, hv⟩ := hv
  have hx := B.exec
  have hb := B.bytes
  have hr := B.returns
  have hlk := B.notSynchronized
  have hts := atoms_spec (ws := wX1_fail) B.pre
  have hT : ∀ w ∈ nw_T, w.before _ s = true := fun w h => hts w (List.mem_cons_of_mem _ h)
  have hown : s.vm.findClass RX1 = some m.cls := findClass_of_methodNamed B.named
  have hK : mc_K G s := hv.2.2
  have hC := mc_start hv
  have hl := lv_entry ([.ref (mg_h G), .int (nI k)]) (n := 2) (Nat.le_of_ble_eq_true rfl)
  rw [lg_entry_eq]
  generalize (lg_sl ([.ref (mg_h G), .int (nI k)]) ++ List.replicate (2 - (lg_sl ([.ref (mg_h G), .int (nI k)])).length) Slot.unset).toArray = ls at hl ⊢
  have hl : lv_has ls 2 [(0, .ref (mg_h G)), (1, .int (nI k))] := hl
  refine lv_aload_n hx hb dX1_fail_0 rfl (lv_at hl 0 rfl) ?_
  refine lv_iload_n hx hb dX1_fail_1 rfl (lv_at hl 1 rfl) ?_
  refine mr_put (x := k) hx hb hT mx_in hown hK hC (hT _ mw_370) dX1_fail_2 (fun H locs hC => ?_)
  refine lv_iconst (v := (nI 0)) hx hb dX1_fail_5 (by decide +kernel) ?_
  exact mr_iret hx hb hr hlk hC (⟨rfl, rfl⟩) dX1_fail_6
set_option maxHeartbeats 4000000 in
set_option maxRecDepth 100000 in
/-- row() -/
theorem k1_row (l : Launch) (G : mg_T) (S : ms_T) (hO : mv_ok S) : Met l yX1_row wX1_row ({ frames := 0, cells := 0, slots := 0, locals := 0 }) (va_Pc [.ref (mg_h G)] (mc_p G S)) (va_Qi (fun (v : Int32) (S' : ms_T) => v = nI (ls_b (fun r => decide (ms_B S r = 0)) 40) ∧ S' = S) (mc_q G) (mg_A G)) 0 0 (mg_A G) := by
  refine Met.ofW (cc := cX1_row) (maxL := 2) (ret := (some .int)) (by decide) rfl ?_
  intro p e s m args below meth c s₁ B hml hv
  obtain ⟨rfl, hv⟩ := hv
  have hx := B.exec
  have hb := B.bytes
  have hr := B.returns
  have hlk := B.notSynchronized
  have hts := atoms_spec (ws := wX1_row) B.pre
  have hT : ∀ w ∈ nw_T, w.before _ s = true := fun w h => hts w (List.mem_cons_of_mem _ h)
  have hown : s.vm.findClass RX1 = some m.cls := findClass_of_methodNamed B.named
  have hK : mc_K G s := hv.2.2
  have hC := mc_start hv
  have hl := lv_entry ([.ref (mg_h G)]) (n := 2) (Nat.le_of_ble_eq_true rfl)
  rw [lg_entry_eq]
  generalize (lg_sl ([.ref (mg_h G)]) ++ List.replicate (2 - (lg_sl ([.ref (mg_h G)])).length) Slot.unset).toArray = ls at hl ⊢
  have hl : lv_has ls 2 [(0, .ref (mg_h G))] := hl
  refine lv_iconst (v := (nI 0)) hx hb dX1_row_0 (by decide +kernel) ?_
  refine lv_istore_n (lv' := [(1, .int (nI 0)), (0, .ref (mg_h G))]) hx hb dX1_row_1 rfl hl (by decide) rfl (fun ls hl => ?_)
  have loop : ∀ (n : Nat) (i : Nat) (ls : Array Slot) (H : Heap) (locs : List Loc), i + n = 40 → (∀ j, j < i → (fun r => decide (ms_B S r = 0)) j = false) → lv_has ls 2 [(1, .int (nI i)), (0, .ref (mg_h G))] → mc_at G (mg_A G) s.heap S H locs → W p l e (headSpec wX1_row ({ frames := 0, cells := 0, slots := 0, locals := 0 })).room s m [.ref (mg_h G)].toArray below meth c H locs 0 0 (MQ below (va_Qi (fun (v : Int32) (S' : ms_T) => v = nI (ls_b (fun r => decide (ms_B S r = 0)) 40) ∧ S' = S) (mc_q G) (mg_A G)) [.ref (mg_h G)].toArray s 0 0 (mg_A G)) (F0 m 2 ls []) := by
    intro n
    induction n with
    | zero =>
      intro i ls H locs hm hI hl hC
      refine lv_iload_n hx hb dX1_row_2 rfl (lv_at hl 0 rfl) ?_
      refine lv_bipush (v := (nI 40)) hx hb dX1_row_3 (by decide +kernel) ?_
      refine wn_ge (tgt := 23) hx hb (by omega) (by omega) dX1_row_5 rfl (fun _ => ?_) (fun h9 => absurd h9 (by omega))
      refine lv_iload_n hx hb dX1_row_23 rfl (lv_at hl 0 rfl) ?_
      have e : ls_b (fun r => decide (ms_B S r = 0)) 40 = i := by rw [ls_none (fun j hj => hI j (by omega))]; omega
      exact mr_iret hx hb hr hlk hC (⟨by rw [e], rfl⟩) dX1_row_24
    | succ n ih =>
      intro i ls H locs hm hI hl hC
      refine lv_iload_n hx hb dX1_row_2 rfl (lv_at hl 0 rfl) ?_
      refine lv_bipush (v := (nI 40)) hx hb dX1_row_3 (by decide +kernel) ?_
      refine wn_ge (tgt := 23) hx hb (by omega) (by omega) dX1_row_5 rfl (fun h9 => absurd h9 (by omega)) (fun _ => ?_)
      have hB1 := hO.1 i (by omega)
      refine lv_aload_n hx hb dX1_row_8 rfl (lv_at hl 1 rfl) ?_
      refine mr_get hx hb hT mx_in hown hK hC 1 (by decide) (hT _ mw_371) rfl rfl dX1_row_9 ?_
      refine lv_iload_n hx hb dX1_row_12 rfl (lv_at hl 0 rfl) ?_
      refine mr_ldB hx hb hK hC (by omega) dX1_row_13 ?_
      refine wn_if0 (tgt := 23) hx hb (by omega) dX1_row_14 rfl (fun h3 => ?_) (fun h3 => ?_)
      · refine lv_iload_n hx hb dX1_row_23 rfl (lv_at hl 0 rfl) ?_
        have e : ls_b (fun r => decide (ms_B S r = 0)) 40 = i := ls_is (by omega) (decide_eq_true h3) hI
        exact mr_iret hx hb hr hlk hC (⟨by rw [e], rfl⟩) dX1_row_24
      · refine lv_iinc (lv' := [(1, .int (nI (i + 1))), (0, .ref (mg_h G))]) (v := (nI (i + 1))) (k := 0) hx hb dX1_row_17 hl rfl (nI_1 _) (by decide) rfl (fun ls hl => ?_)
        refine lv_goto (tgt := 2) hx hb dX1_row_20 rfl ?_
        exact ih (i + 1) ls H locs (by omega) (lt_s hI (decide_eq_false (by omega))) hl hC
  exact loop 40 0 ls s.heap [] rfl lt_0 hl hC
set_option maxHeartbeats 4000000 in
set_option maxRecDepth 100000 in
/-- at(r, k) -/
theorem k1_at (l : Launch) (G : mg_T) (S : ms_T) (r k : Nat) (h40 : r < 40) (h32 : k < 32) : Met l yX1_at wX1_at ({ frames := 0, cells := 0, slots := 0, locals := 0 }) (va_Pc [.ref (mg_h G), .int (nI r), .int (nI k)] (mc_p G S)) (va_Qi (fun (v : Int32) (S' : ms_T) => v = ks_e (ms_F S (32 * r + k)) ∧ S' = S) (mc_q G) (mg_A G)) 0 0 (mg_A G) := by
  refine Met.ofW (cc := cX1_at) (maxL := 3) (ret := (some .int)) (by decide) rfl ?_
  intro p e s m args below meth c s₁ B hml hv
  obtain ⟨rfl, hv⟩ := hv
  have hx := B.exec
  have hb := B.bytes
  have hr := B.returns
  have hlk := B.notSynchronized
  have hts := atoms_spec (ws := wX1_at) B.pre
  have hT : ∀ w ∈ nw_T, w.before _ s = true := fun w h => hts w (List.mem_cons_of_mem _ h)
  have hown : s.vm.findClass RX1 = some m.cls := findClass_of_methodNamed B.named
  have hK : mc_K G s := hv.2.2
  have hC := mc_start hv
  have hl := lv_entry ([.ref (mg_h G), .int (nI r), .int (nI k)]) (n := 3) (Nat.le_of_ble_eq_true rfl)
  rw [lg_entry_eq]
  generalize (lg_sl ([.ref (mg_h G), .int (nI r), .int (nI k)]) ++ List.replicate (3 - (lg_sl ([.ref (mg_h G), .int (nI r), .int (nI k)])).length) Slot.unset).toArray = ls at hl ⊢
  have hl : lv_has ls 3 [(0, .ref (mg_h G)), (1, .int (nI r)), (2, .int (nI k))] := hl
  refine lv_aload_n hx hb dX1_at_0 rfl (lv_at hl 0 rfl) ?_
  refine mr_get hx hb hT mx_in hown hK hC 3 (by decide) (hT _ mw_373) rfl rfl dX1_at_1 ?_
  refine lv_bipush (v := (nI 32)) hx hb dX1_at_4 (by decide +kernel) ?_
  refine lv_iload_n hx hb dX1_at_6 rfl (lv_at hl 1 rfl) ?_
  refine wn_mul hx hb dX1_at_7 ?_
  refine lv_iload_n hx hb dX1_at_8 rfl (lv_at hl 2 rfl) ?_
  refine wn_add hx hb dX1_at_9 ?_
  refine mr_ldF hx hb hK hC (by omega) dX1_at_10 ?_
  exact mr_iret hx hb hr hlk hC (⟨rfl, rfl⟩) dX1_at_11
set_option maxHeartbeats 4000000 in
set_option maxRecDepth 100000 in
/-- lacks(x) -/
theorem k1_lacks (l : Launch) (G : mg_T) (S : ms_T) (x : Int32) (hO : mv_ok S) : Met l yX1_lacks wX1_lacks ({ frames := 0, cells := 0, slots := 0, locals := 0 }) (va_Pc [.ref (mg_h G), .int x] (mc_p G S)) (va_Qi (fun (v : Int32) (S' : ms_T) => ((∀ j, ¬ mo_row S x j) ∧ v = nI 1 ∧ S' = ms_st S 1) ∨ ∃ j, mo_row S x j ∧ v = nI 0 ∧ S' = ms_st S 0) (mc_q G) (mg_A G)) 0 0 (mg_A G) := by
  refine Met.ofW (cc := cX1_lacks) (maxL := 2) (ret := (some .boolean)) (by decide) rfl ?_
  intro p e s m args below meth c s₁ B hml hv
  obtain ⟨rfl, hv⟩ := hv
  have hx := B.exec
  have hb := B.bytes
  have hr := B.returns
  have hlk := B.notSynchronized
  have hts := atoms_spec (ws := wX1_lacks) B.pre
  have hT : ∀ w ∈ nw_T, w.before _ s = true := fun w h => hts w (List.mem_cons_of_mem _ h)
  have hown : s.vm.findClass RX1 = some m.cls := findClass_of_methodNamed B.named
  have hK : mc_K G s := hv.2.2
  have hC := mc_start hv
  have hl := lv_entry ([.ref (mg_h G), .int x]) (n := 2) (Nat.le_of_ble_eq_true rfl)
  rw [lg_entry_eq]
  generalize (lg_sl ([.ref (mg_h G), .int x]) ++ List.replicate (2 - (lg_sl ([.ref (mg_h G), .int x])).length) Slot.unset).toArray = ls at hl ⊢
  have hl : lv_has ls 2 [(0, .ref (mg_h G)), (1, .int x)] := hl
  rcases pk_ix x (n := 40) (by omega) with h | h | ⟨j, hj, rfl⟩
  · refine lv_aload_n hx hb dX1_lacks_0 rfl (lv_at hl 0 rfl) ?_
    refine lv_iload_n hx hb dX1_lacks_1 rfl (lv_at hl 1 rfl) ?_
    refine lv_if_lt (tgt := 20) hx hb dX1_lacks_2 rfl (fun _ => ?_) (fun h9 => absurd h h9)
    refine lv_iconst (v := (nI 1)) hx hb dX1_lacks_20 (by decide +kernel) ?_
    refine lv_goto (tgt := 25) hx hb dX1_lacks_21 rfl ?_
    refine mr_put (x := 1) hx hb hT mx_in hown hK hC (hT _ mw_370) dX1_lacks_25 (fun H locs hC => ?_)
    refine lv_aload_n hx hb dX1_lacks_28 rfl (lv_at hl 0 rfl) ?_
    refine mr_get (v := .int (nI 1)) hx hb hT mx_in hown hK hC 0 (by decide) (hT _ mw_370) rfl rfl dX1_lacks_29 ?_
    refine wn_ifle (tgt := 39) hx hb (by omega) dX1_lacks_32 rfl (fun h9 => absurd h9 (by omega)) (fun _ => ?_)
    refine lv_iconst (v := (nI 1)) hx hb dX1_lacks_35 (by decide +kernel) ?_
    refine lv_goto (tgt := 40) hx hb dX1_lacks_36 rfl ?_
    have hno : ∀ i, ¬ mo_row S x i := fun j hm => by
          rw [hm.2.1] at h
          exact nI_pos (by have := hm.1; omega) h
    exact mr_zret hx hb hr hlk hC (by decide +kernel) (Or.inl ⟨hno, rfl, rfl⟩) dX1_lacks_40
  · refine lv_aload_n hx hb dX1_lacks_0 rfl (lv_at hl 0 rfl) ?_
    refine lv_iload_n hx hb dX1_lacks_1 rfl (lv_at hl 1 rfl) ?_
    have h0 : ¬ x < 0 := ks_nlt (by omega) h
    refine lv_if_lt (tgt := 20) hx hb dX1_lacks_2 rfl (fun h9 => absurd h9 h0) (fun _ => ?_)
    refine lv_iload_n hx hb dX1_lacks_5 rfl (lv_at hl 1 rfl) ?_
    refine lv_bipush (v := (nI 40)) hx hb dX1_lacks_6 (by decide +kernel) ?_
    refine lv_icmp_ge (tgt := 20) hx hb dX1_lacks_8 rfl (fun _ => ?_) (fun h9 => absurd h h9)
    refine lv_iconst (v := (nI 1)) hx hb dX1_lacks_20 (by decide +kernel) ?_
    refine lv_goto (tgt := 25) hx hb dX1_lacks_21 rfl ?_
    refine mr_put (x := 1) hx hb hT mx_in hown hK hC (hT _ mw_370) dX1_lacks_25 (fun H locs hC => ?_)
    refine lv_aload_n hx hb dX1_lacks_28 rfl (lv_at hl 0 rfl) ?_
    refine mr_get (v := .int (nI 1)) hx hb hT mx_in hown hK hC 0 (by decide) (hT _ mw_370) rfl rfl dX1_lacks_29 ?_
    refine wn_ifle (tgt := 39) hx hb (by omega) dX1_lacks_32 rfl (fun h9 => absurd h9 (by omega)) (fun _ => ?_)
    refine lv_iconst (v := (nI 1)) hx hb dX1_lacks_35 (by decide +kernel) ?_
    refine lv_goto (tgt := 40) hx hb dX1_lacks_36 rfl ?_
    have hno : ∀ i, ¬ mo_row S x i := fun j hm => by
          have h1 := hm.1
          rw [hm.2.1, Int32.le_iff_toInt_le, nI_toInt (by omega), nI_toInt (by omega)] at h
          omega
    exact mr_zret hx hb hr hlk hC (by decide +kernel) (Or.inl ⟨hno, rfl, rfl⟩) dX1_lacks_40
  · refine lv_aload_n hx hb dX1_lacks_0 rfl (lv_at hl 0 rfl) ?_
    refine lv_iload_n hx hb dX1_lacks_1 rfl (lv_at hl 1 rfl) ?_
    have h0 : ¬ nI j < 0 := nI_pos (by omega)
    refine lv_if_lt (tgt := 20) hx hb dX1_lacks_2 rfl (fun h9 => absurd h9 h0) (fun _ => ?_)
    refine lv_iload_n hx hb dX1_lacks_5 rfl (lv_at hl 1 rfl) ?_
    refine lv_bipush (v := (nI 40)) hx hb dX1_lacks_6 (by decide +kernel) ?_
    refine wn_ge (tgt := 20) hx hb (by omega) (by omega) dX1_lacks_8 rfl (fun h9 => absurd h9 (by omega)) (fun _ => ?_)
    have hB1 := hO.1 j hj
    refine lv_aload_n hx hb dX1_lacks_11 rfl (lv_at hl 0 rfl) ?_
    refine mr_get hx hb hT mx_in hown hK hC 1 (by decide) (hT _ mw_371) rfl rfl dX1_lacks_12 ?_
    refine lv_iload_n hx hb dX1_lacks_15 rfl (lv_at hl 1 rfl) ?_
    refine mr_ldB hx hb hK hC (by omega) dX1_lacks_16 ?_
    refine wn_if1 (tgt := 24) hx hb (by omega) dX1_lacks_17 rfl (fun h3 => ?_) (fun h3 => ?_)
    · refine lv_iconst (v := (nI 0)) hx hb dX1_lacks_24 (by decide +kernel) ?_
      refine mr_put (x := 0) hx hb hT mx_in hown hK hC (hT _ mw_370) dX1_lacks_25 (fun H locs hC => ?_)
      refine lv_aload_n hx hb dX1_lacks_28 rfl (lv_at hl 0 rfl) ?_
      refine mr_get (v := .int (nI 0)) hx hb hT mx_in hown hK hC 0 (by decide) (hT _ mw_370) rfl rfl dX1_lacks_29 ?_
      refine wn_ifle (tgt := 39) hx hb (by omega) dX1_lacks_32 rfl (fun _ => ?_) (fun h9 => absurd h9 (by omega))
      refine lv_iconst (v := (nI 0)) hx hb dX1_lacks_39 (by decide +kernel) ?_
      exact mr_zret hx hb hr hlk hC (by decide +kernel) (Or.inr ⟨j, ⟨hj, rfl, by omega⟩, rfl, rfl⟩) dX1_lacks_40
    · refine lv_iconst (v := (nI 1)) hx hb dX1_lacks_20 (by decide +kernel) ?_
      refine lv_goto (tgt := 25) hx hb dX1_lacks_21 rfl ?_
      refine mr_put (x := 1) hx hb hT mx_in hown hK hC (hT _ mw_370) dX1_lacks_25 (fun H locs hC => ?_)
      refine lv_aload_n hx hb dX1_lacks_28 rfl (lv_at hl 0 rfl) ?_
      refine mr_get (v := .int (nI 1)) hx hb hT mx_in hown hK hC 0 (by decide) (hT _ mw_370) rfl rfl dX1_lacks_29 ?_
      refine wn_ifle (tgt := 39) hx hb (by omega) dX1_lacks_32 rfl (fun h9 => absurd h9 (by omega)) (fun _ => ?_)
      refine lv_iconst (v := (nI 1)) hx hb dX1_lacks_35 (by decide +kernel) ?_
      refine lv_goto (tgt := 40) hx hb dX1_lacks_36 rfl ?_
      have hno : ∀ i, ¬ mo_row S (nI j) i := fun i hm => by
            have h1 := hm.1
            have h2 := (nI_eq (by omega) (by omega)).mp hm.2.1
            have h4 := hm.2.2
            rw [← h2] at h4
            omega
      exact mr_zret hx hb hr hlk hC (by decide +kernel) (Or.inl ⟨hno, rfl, rfl⟩) dX1_lacks_40
set_option maxHeartbeats 4000000 in
set_option maxRecDepth 100000 in
/-- none(j, y, z) -/
theorem k1_none (l : Launch) (G : mg_T) (S : ms_T) (j : Nat) (h40 : j < 40) (y z : Int32) (hO : mv_ok S) : Met l yX1_none wX1_none ({ frames := 0, cells := 0, slots := 0, locals := 0 }) (va_Pc [.ref (mg_h G), .int (nI j), .int y, .int z] (mc_p G S)) (va_Qi (fun (v : Int32) (S' : ms_T) => ((∀ a b, ¬ (y = nI a ∧ z = nI b ∧ a + b ≤ ms_P S j)) ∧ v = nI 1 ∧ S' = S) ∨ ∃ a b, y = nI a ∧ z = nI b ∧ a + b ≤ ms_P S j ∧ v = nI 0 ∧ S' = S) (mc_q G) (mg_A G)) 0 0 (mg_A G) := by
  refine Met.ofW (cc := cX1_none) (maxL := 4) (ret := (some .boolean)) (by decide) rfl ?_
  intro p e s m args below meth c s₁ B hml hv
  obtain ⟨rfl, hv⟩ := hv
  have hx := B.exec
  have hb := B.bytes
  have hr := B.returns
  have hlk := B.notSynchronized
  have hts := atoms_spec (ws := wX1_none) B.pre
  have hT : ∀ w ∈ nw_T, w.before _ s = true := fun w h => hts w (List.mem_cons_of_mem _ h)
  have hown : s.vm.findClass RX1 = some m.cls := findClass_of_methodNamed B.named
  have hK : mc_K G s := hv.2.2
  have hC := mc_start hv
  have hl := lv_entry ([.ref (mg_h G), .int (nI j), .int y, .int z]) (n := 4) (Nat.le_of_ble_eq_true rfl)
  rw [lg_entry_eq]
  generalize (lg_sl ([.ref (mg_h G), .int (nI j), .int y, .int z]) ++ List.replicate (4 - (lg_sl ([.ref (mg_h G), .int (nI j), .int y, .int z])).length) Slot.unset).toArray = ls at hl ⊢
  have hl : lv_has ls 4 [(0, .ref (mg_h G)), (1, .int (nI j)), (2, .int y), (3, .int z)] := hl
  have hP1 := hO.2.1 j h40
  refine lv_iload_n hx hb dX1_none_0 rfl (lv_at hl 2 rfl) ?_
  refine lv_if_lt (tgt := 30) hx hb dX1_none_1 rfl (fun h1 => ?_) (fun h1 => ?_)
  · refine lv_iconst (v := (nI 1)) hx hb dX1_none_30 (by decide +kernel) ?_
    refine lv_goto (tgt := 35) hx hb dX1_none_31 rfl ?_
    have hno : ∀ a b, ¬ (y = nI a ∧ z = nI b ∧ a + b ≤ ms_P S j) := fun a b hm => by
        rw [hm.1] at h1
        exact nI_pos (by omega) h1
    exact mr_zret hx hb hr hlk hC (by decide +kernel) (Or.inl ⟨hno, rfl, rfl⟩) dX1_none_35
  · refine lv_iload_n hx hb dX1_none_4 rfl (lv_at hl 3 rfl) ?_
    refine lv_if_lt (tgt := 30) hx hb dX1_none_5 rfl (fun h2 => ?_) (fun h2 => ?_)
    · refine lv_iconst (v := (nI 1)) hx hb dX1_none_30 (by decide +kernel) ?_
      refine lv_goto (tgt := 35) hx hb dX1_none_31 rfl ?_
      have hno : ∀ a b, ¬ (y = nI a ∧ z = nI b ∧ a + b ≤ ms_P S j) := fun a b hm => by
          rw [hm.2.1] at h2
          exact nI_pos (by omega) h2
      exact mr_zret hx hb hr hlk hC (by decide +kernel) (Or.inl ⟨hno, rfl, rfl⟩) dX1_none_35
    · obtain ⟨yy, hy1, rfl⟩ := nI_of h1
      obtain ⟨zz, hz1, rfl⟩ := nI_of h2
      refine lv_iload_n hx hb dX1_none_8 rfl (lv_at hl 3 rfl) ?_
      refine lv_aload_n hx hb dX1_none_9 rfl (lv_at hl 0 rfl) ?_
      refine mr_get hx hb hT mx_in hown hK hC 2 (by decide) (hT _ mw_372) rfl rfl dX1_none_10 ?_
      refine lv_iload_n hx hb dX1_none_13 rfl (lv_at hl 1 rfl) ?_
      refine mr_ldP hx hb hK hC (by omega) dX1_none_14 ?_
      refine wn_gt (tgt := 30) hx hb (by omega) (by omega) dX1_none_15 rfl (fun h3 => ?_) (fun h3 => ?_)
      · refine lv_iconst (v := (nI 1)) hx hb dX1_none_30 (by decide +kernel) ?_
        refine lv_goto (tgt := 35) hx hb dX1_none_31 rfl ?_
        have hno : ∀ a b, ¬ ((nI yy) = nI a ∧ (nI zz) = nI b ∧ a + b ≤ ms_P S j) := fun a b hm => by
            have e1 := (nI_eq (by omega) (by omega)).mp hm.2.1
            omega
        exact mr_zret hx hb hr hlk hC (by decide +kernel) (Or.inl ⟨hno, rfl, rfl⟩) dX1_none_35
      · refine lv_iload_n hx hb dX1_none_18 rfl (lv_at hl 2 rfl) ?_
        refine lv_aload_n hx hb dX1_none_19 rfl (lv_at hl 0 rfl) ?_
        refine mr_get hx hb hT mx_in hown hK hC 2 (by decide) (hT _ mw_372) rfl rfl dX1_none_20 ?_
        refine lv_iload_n hx hb dX1_none_23 rfl (lv_at hl 1 rfl) ?_
        refine mr_ldP hx hb hK hC (by omega) dX1_none_24 ?_
        refine lv_iload_n hx hb dX1_none_25 rfl (lv_at hl 3 rfl) ?_
        refine wn_sub hx hb (by omega) dX1_none_26 ?_
        refine wn_le (tgt := 34) hx hb (by omega) (by omega) dX1_none_27 rfl (fun h4 => ?_) (fun h4 => ?_)
        · refine lv_iconst (v := (nI 0)) hx hb dX1_none_34 (by decide +kernel) ?_
          exact mr_zret hx hb hr hlk hC (by decide +kernel) (Or.inr ⟨yy, zz, rfl, rfl, by omega, rfl, rfl⟩) dX1_none_35
        · refine lv_iconst (v := (nI 1)) hx hb dX1_none_30 (by decide +kernel) ?_
          refine lv_goto (tgt := 35) hx hb dX1_none_31 rfl ?_
          have hno : ∀ a b, ¬ ((nI yy) = nI a ∧ (nI zz) = nI b ∧ a + b ≤ ms_P S j) := fun a b hm => by
              have e1 := (nI_eq (by omega) (by omega)).mp hm.1
              have e2 := (nI_eq (by omega) (by omega)).mp hm.2.1
              omega
          exact mr_zret hx hb hr hlk hC (by decide +kernel) (Or.inl ⟨hno, rfl, rfl⟩) dX1_none_35
set_option maxHeartbeats 4000000 in
set_option maxRecDepth 100000 in
/-- page(x, y) -/
theorem k1_page (l : Launch) (G : mg_T) (S : ms_T) (x y : Int32) (hO : mv_ok S) : Met l yX1_page wX1_page ({ frames := 1, cells := 0, slots := 0, locals := 32 }) (va_Pc [.ref (mg_h G), .int x, .int y] (mc_p G S)) (va_Qi (fun (v : Int32) (S' : ms_T) => ((∀ j a, ¬ mo_pg S x y j a) ∧ v = nI 0 ∧ S' = ms_st S 1) ∨ ∃ j a, mo_pg S x y j a ∧ v = nI 1 ∧ S' = ms_st S 0) (mc_q G) (mg_A G)) 0 0 (mg_A G) := by
  refine Met.ofW (cc := cX1_page) (maxL := 3) (ret := (some .boolean)) (by decide) rfl ?_
  intro p e s m args below meth c s₁ B hml hv
  obtain ⟨rfl, hv⟩ := hv
  have hx := B.exec
  have hb := B.bytes
  have hr := B.returns
  have hlk := B.notSynchronized
  have hts := atoms_spec (ws := wX1_page) B.pre
  have hT : ∀ w ∈ nw_T, w.before _ s = true := fun w h => hts w (List.mem_cons_of_mem _ h)
  have hown : s.vm.findClass RX1 = some m.cls := findClass_of_methodNamed B.named
  have hK : mc_K G s := hv.2.2
  have hC := mc_start hv
  have hl := lv_entry ([.ref (mg_h G), .int x, .int y]) (n := 3) (Nat.le_of_ble_eq_true rfl)
  rw [lg_entry_eq]
  generalize (lg_sl ([.ref (mg_h G), .int x, .int y]) ++ List.replicate (3 - (lg_sl ([.ref (mg_h G), .int x, .int y])).length) Slot.unset).toArray = ls at hl ⊢
  have hl : lv_has ls 3 [(0, .ref (mg_h G)), (1, .int x), (2, .int y)] := hl
  refine lv_aload_n hx hb dX1_page_0 rfl (lv_at hl 0 rfl) ?_
  refine lv_iload_n hx hb dX1_page_1 rfl (lv_at hl 1 rfl) ?_
  refine mr_ci (As := [.int x]) (rest := []) ⟨hx, hb, hml, hown, hts⟩ (k1_lacks l G S x hO) (cwV 1 hts gX1_30 rfl rfl rfl hX1_lacks ⟨Nat.le_of_ble_eq_true rfl, Nat.le_of_ble_eq_true rfl⟩) hK hC rfl hl.1 rfl (Nat.le_of_ble_eq_true rfl) dX1_page_2 ⟨Nat.zero_le _, Nat.zero_le _⟩ (fun v S1 H locs hp hC => ?_)
  obtain ⟨hno, rfl, hS1⟩ | ⟨j, hj, rfl, hS1⟩ := hp
  · rw [hS1] at hC
    refine wn_if1 (tgt := 27) hx hb (by omega) dX1_page_5 rfl (fun _ => ?_) (fun h9 => absurd h9 (by omega))
    refine lv_aload_n hx hb dX1_page_27 rfl (lv_at hl 0 rfl) ?_
    refine mr_get (v := .int (nI 1)) hx hb hT mx_in hown hK hC 0 (by decide) (hT _ mw_370) rfl rfl dX1_page_28 ?_
    refine wn_if1 (tgt := 38) hx hb (by omega) dX1_page_31 rfl (fun _ => ?_) (fun h9 => absurd h9 (by omega))
    refine lv_iconst (v := (nI 0)) hx hb dX1_page_38 (by decide +kernel) ?_
    exact mr_zret hx hb hr hlk hC (by decide +kernel) (Or.inl ⟨fun j a hm => hno j hm.1, rfl, rfl⟩) dX1_page_39
  · rw [hS1] at hC
    obtain ⟨hj4, rfl, hjB⟩ := hj
    have hP1 := hO.2.1 j hj4
    refine wn_if1 (tgt := 27) hx hb (by omega) dX1_page_5 rfl (fun h9 => absurd h9 (by omega)) (fun _ => ?_)
    refine lv_iload_n hx hb dX1_page_8 rfl (lv_at hl 2 rfl) ?_
    refine lv_if_lt (tgt := 22) hx hb dX1_page_9 rfl (fun h1 => ?_) (fun h1 => ?_)
    · refine lv_aload_n hx hb dX1_page_22 rfl (lv_at hl 0 rfl) ?_
      refine lv_iconst (v := (nI 1)) hx hb dX1_page_23 (by decide +kernel) ?_
      refine mr_put (x := 1) hx hb hT mx_in hown hK hC (hT _ mw_370) dX1_page_24 (fun H locs hC => ?_)
      refine lv_aload_n hx hb dX1_page_27 rfl (lv_at hl 0 rfl) ?_
      refine mr_get (v := .int (nI 1)) hx hb hT mx_in hown hK hC 0 (by decide) (hT _ mw_370) rfl rfl dX1_page_28 ?_
      refine wn_if1 (tgt := 38) hx hb (by omega) dX1_page_31 rfl (fun _ => ?_) (fun h9 => absurd h9 (by omega))
      refine lv_iconst (v := (nI 0)) hx hb dX1_page_38 (by decide +kernel) ?_
      exact mr_zret hx hb hr hlk hC (by decide +kernel) (Or.inl ⟨fun i a hm => by
          rw [hm.2.1] at h1
          have e1 := hm.2.2
          have e2 := hO.2.1 i hm.1.1
          exact nI_pos (by omega) h1, rfl, rfl⟩) dX1_page_39
    · obtain ⟨yy, hy1, rfl⟩ := nI_of h1
      refine lv_iload_n hx hb dX1_page_12 rfl (lv_at hl 2 rfl) ?_
      refine lv_aload_n hx hb dX1_page_13 rfl (lv_at hl 0 rfl) ?_
      refine mr_get hx hb hT mx_in hown hK hC 2 (by decide) (hT _ mw_372) rfl rfl dX1_page_14 ?_
      refine lv_iload_n hx hb dX1_page_17 rfl (lv_at hl 1 rfl) ?_
      refine mr_ldP hx hb hK hC (by omega) dX1_page_18 ?_
      have hP2 : ms_P (ms_st S 0) j ≤ 32 := hP1
      refine wn_lt (tgt := 27) hx hb (by omega) (by omega) dX1_page_19 rfl (fun h3 => ?_) (fun h3 => ?_)
      · refine lv_aload_n hx hb dX1_page_27 rfl (lv_at hl 0 rfl) ?_
        refine mr_get (v := .int (nI 0)) hx hb hT mx_in hown hK hC 0 (by decide) (hT _ mw_370) rfl rfl dX1_page_28 ?_
        refine wn_if1 (tgt := 38) hx hb (by omega) dX1_page_31 rfl (fun h9 => absurd h9 (by omega)) (fun _ => ?_)
        refine lv_iconst (v := (nI 1)) hx hb dX1_page_34 (by decide +kernel) ?_
        refine lv_goto (tgt := 39) hx hb dX1_page_35 rfl ?_
        exact mr_zret hx hb hr hlk hC (by decide +kernel) (Or.inr ⟨j, yy, ⟨⟨hj4, rfl, hjB⟩, rfl, h3⟩, rfl, rfl⟩) dX1_page_39
      · have hC : mc_at G (mg_A G) s.heap (ms_st S 0) H locs := hC
        refine lv_aload_n hx hb dX1_page_22 rfl (lv_at hl 0 rfl) ?_
        refine lv_iconst (v := (nI 1)) hx hb dX1_page_23 (by decide +kernel) ?_
        refine mr_put (x := 1) hx hb hT mx_in hown hK hC (hT _ mw_370) dX1_page_24 (fun H locs hC => ?_)
        refine lv_aload_n hx hb dX1_page_27 rfl (lv_at hl 0 rfl) ?_
        refine mr_get (v := .int (nI 1)) hx hb hT mx_in hown hK hC 0 (by decide) (hT _ mw_370) rfl rfl dX1_page_28 ?_
        refine wn_if1 (tgt := 38) hx hb (by omega) dX1_page_31 rfl (fun _ => ?_) (fun h9 => absurd h9 (by omega))
        refine lv_iconst (v := (nI 0)) hx hb dX1_page_38 (by decide +kernel) ?_
        exact mr_zret hx hb hr hlk hC (by decide +kernel) (Or.inl ⟨fun i a hm => by
            have e0 := hm.1.1
            have e3 := hO.2.1 i e0
            have e1 := (nI_eq (by omega) (by omega)).mp hm.1.2.1
            have e4 := hm.2.2
            have e2 := (nI_eq (by omega) (by omega)).mp hm.2.1
            have h3 : ms_P S j ≤ yy := h3
            rw [e1] at h3
            omega, rfl, rfl⟩) dX1_page_39
