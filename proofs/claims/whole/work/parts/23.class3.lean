/-! the class's loops that count (laid by program) -/
set_option maxHeartbeats 4000000 in
set_option maxRecDepth 100000 in
/-- blankPages(r) -/
theorem k0_blankPages (l : Launch) (G : kg_T) (S : ks_T) (r k : Nat) (h40 : r < 40) (hk : ks_P S r = k + 1) (h33 : k ≤ 32) (hV : kv_c S) : Met l yX0_blankPages wX0_blankPages ({ frames := 0, cells := 0, slots := 0, locals := 0 }) (va_Pc [.ref (kg_h G), .int (nI r)] (kc_p G S)) (va_Qi (fun (v : Int32) (S' : ks_T) => v = nI (ct_b (fun p => decide (ks_F S r p = 0)) k) ∧ S' = S) (kc_q G) (kg_A G)) 0 0 (kg_A G) := by
  refine Met.ofW (cc := cX0_blankPages) (maxL := 4) (ret := (some .int)) (by decide) rfl ?_
  intro p e s m args below meth c s₁ B hml hv
  obtain ⟨rfl, hv⟩ := hv
  have hx := B.exec
  have hb := B.bytes
  have hr := B.returns
  have hlk := B.notSynchronized
  have hts := atoms_spec (ws := wX0_blankPages) B.pre
  have hT : ∀ w ∈ nw_T, w.before _ s = true := fun w h => hts w (List.mem_cons_of_mem _ h)
  have hown : s.vm.findClass RX0 = some m.cls := findClass_of_methodNamed B.named
  have hK : kc_K G s := hv.2.2
  have hC := kc_start hv
  have hl := lv_entry ([.ref (kg_h G), .int (nI r)]) (n := 4) (Nat.le_of_ble_eq_true rfl)
  rw [lg_entry_eq]
  generalize (lg_sl ([.ref (kg_h G), .int (nI r)]) ++ List.replicate (4 - (lg_sl ([.ref (kg_h G), .int (nI r)])).length) Slot.unset).toArray = ls at hl ⊢
  have hl : lv_has ls 4 [(0, .ref (kg_h G)), (1, .int (nI r))] := hl
  have ek : ks_e (ks_P S r) = nI k := by rw [ks_es (by omega), hk]; rfl
  refine lv_iconst (v := (nI 0)) hx hb dX0_blankPages_0 (by decide +kernel) ?_
  refine lv_istore_n (lv' := [(2, .int (nI 0)), (0, .ref (kg_h G)), (1, .int (nI r))]) hx hb dX0_blankPages_1 rfl hl (by decide) rfl (fun ls hl => ?_)
  refine lv_iconst (v := (nI 0)) hx hb dX0_blankPages_2 (by decide +kernel) ?_
  refine lv_istore_n (lv' := [(3, .int (nI 0)), (2, .int (nI 0)), (0, .ref (kg_h G)), (1, .int (nI r))]) hx hb dX0_blankPages_3 rfl hl (by decide) rfl (fun ls hl => ?_)
  have loop : ∀ (n : Nat) (i : Nat) (d : Nat) (ls : Array Slot) (H : Heap) (locs : List Loc), i + n = k → d = ct_b (fun p => decide (ks_F S r p = 0)) i → lv_has ls 4 [(3, .int (nI i)), (2, .int (nI d)), (0, .ref (kg_h G)), (1, .int (nI r))] → kc_at G (kg_A G) s.heap S H locs → W p l e (headSpec wX0_blankPages ({ frames := 0, cells := 0, slots := 0, locals := 0 })).room s m [.ref (kg_h G), .int (nI r)].toArray below meth c H locs 0 0 (MQ below (va_Qi (fun (v : Int32) (S' : ks_T) => v = nI (ct_b (fun p => decide (ks_F S r p = 0)) k) ∧ S' = S) (kc_q G) (kg_A G)) [.ref (kg_h G), .int (nI r)].toArray s 0 0 (kg_A G)) (F0 m 4 ls []) := by
    intro n
    induction n with
    | zero =>
      intro i d ls H locs hm hc hl hC
      refine lv_iload_n hx hb dX0_blankPages_4 rfl (lv_at hl 0 rfl) ?_
      refine lv_aload_n hx hb dX0_blankPages_5 rfl (lv_at hl 2 rfl) ?_
      refine kr_get hx hb hT kx_in hown hK hC 0 (by decide) (hT _ mw_25) rfl rfl dX0_blankPages_6 ?_
      refine lv_iload_n hx hb dX0_blankPages_9 rfl (lv_at hl 3 rfl) ?_
      refine kr_ldP hx hb hK hC (by omega) dX0_blankPages_10 ?_
      rw [ek]
      refine wn_ge (tgt := 34) hx hb (by omega) (by omega) dX0_blankPages_11 rfl (fun _ => ?_) (fun h9 => absurd h9 (by omega))
      refine lv_iload_n hx hb dX0_blankPages_34 rfl (lv_at hl 1 rfl) ?_
      have e : i = k := by omega
      exact kr_iret hx hb hr hlk hC (⟨by rw [hc, e], rfl⟩) dX0_blankPages_35
    | succ n ih =>
      intro i d ls H locs hm hc hl hC
      refine lv_iload_n hx hb dX0_blankPages_4 rfl (lv_at hl 0 rfl) ?_
      refine lv_aload_n hx hb dX0_blankPages_5 rfl (lv_at hl 2 rfl) ?_
      refine kr_get hx hb hT kx_in hown hK hC 0 (by decide) (hT _ mw_25) rfl rfl dX0_blankPages_6 ?_
      refine lv_iload_n hx hb dX0_blankPages_9 rfl (lv_at hl 3 rfl) ?_
      refine kr_ldP hx hb hK hC (by omega) dX0_blankPages_10 ?_
      rw [ek]
      refine wn_ge (tgt := 34) hx hb (by omega) (by omega) dX0_blankPages_11 rfl (fun h9 => absurd h9 (by omega)) (fun _ => ?_)
      have hF := hV.1 r i h40 (by omega)
      refine lv_aload_n hx hb dX0_blankPages_14 rfl (lv_at hl 2 rfl) ?_
      refine kr_get hx hb hT kx_in hown hK hC 1 (by decide) (hT _ mw_26) rfl rfl dX0_blankPages_15 ?_
      refine lv_iload_n hx hb dX0_blankPages_18 rfl (lv_at hl 3 rfl) ?_
      refine kr_aF hx hb hK hC (by omega) dX0_blankPages_19 ?_
      refine lv_iload_n hx hb dX0_blankPages_20 rfl (lv_at hl 0 rfl) ?_
      refine kr_ldF hx hb hK hC (by omega) (by omega) dX0_blankPages_21 ?_
      refine wn_if1 (tgt := 28) hx hb (by omega) dX0_blankPages_22 rfl (fun h3 => ?_) (fun h3 => ?_)
      · refine lv_iinc (lv' := [(3, .int (nI (i + 1))), (2, .int (nI d)), (0, .ref (kg_h G)), (1, .int (nI r))]) (v := (nI (i + 1))) (k := 0) hx hb dX0_blankPages_28 hl rfl (nI_1 _) (by decide) rfl (fun ls hl => ?_)
        refine lv_goto (tgt := 4) hx hb dX0_blankPages_31 rfl ?_
        exact ih (i + 1) d ls H locs (by omega) (by rw [hc]; exact (ct_b_f (decide_eq_false h3)).symm) hl hC
      · refine lv_iinc (lv' := [(2, .int (nI (d + 1))), (3, .int (nI i)), (0, .ref (kg_h G)), (1, .int (nI r))]) (v := (nI (d + 1))) (k := 1) hx hb dX0_blankPages_25 hl rfl (nI_1 _) (by decide) rfl (fun ls hl => ?_)
        refine lv_iinc (lv' := [(3, .int (nI (i + 1))), (2, .int (nI (d + 1))), (0, .ref (kg_h G)), (1, .int (nI r))]) (v := (nI (i + 1))) (k := 1) hx hb dX0_blankPages_28 hl rfl (nI_1 _) (by decide) rfl (fun ls hl => ?_)
        refine lv_goto (tgt := 4) hx hb dX0_blankPages_31 rfl ?_
        exact ih (i + 1) (d + 1) ls H locs (by omega) (by rw [hc]; exact (ct_b_t (decide_eq_true h3)).symm) hl hC
  exact loop k 0 0 ls s.heap [] (by omega) rfl hl hC
set_option maxHeartbeats 4000000 in
set_option maxRecDepth 100000 in
/-- isFirstWithItsFrame(r, q) -/
theorem k0_isFirstWithItsFrame (l : Launch) (G : kg_T) (S : ks_T) (r q : Nat) (h40 : r < 40) (h32 : q < 32) (hV : kv_c S) : Met l yX0_isFirstWithItsFrame wX0_isFirstWithItsFrame ({ frames := 0, cells := 0, slots := 0, locals := 0 }) (va_Pc [.ref (kg_h G), .int (nI r), .int (nI q)] (kc_p G S)) (va_Qi (fun (v : Int32) (S' : ks_T) => v = (if ks_fst S r q = true then 1 else 0) ∧ S' = S) (kc_q G) (kg_A G)) 0 0 (kg_A G) := by
  refine Met.ofW (cc := cX0_isFirstWithItsFrame) (maxL := 4) (ret := (some .boolean)) (by decide) rfl ?_
  intro p e s m args below meth c s₁ B hml hv
  obtain ⟨rfl, hv⟩ := hv
  have hx := B.exec
  have hb := B.bytes
  have hr := B.returns
  have hlk := B.notSynchronized
  have hts := atoms_spec (ws := wX0_isFirstWithItsFrame) B.pre
  have hT : ∀ w ∈ nw_T, w.before _ s = true := fun w h => hts w (List.mem_cons_of_mem _ h)
  have hown : s.vm.findClass RX0 = some m.cls := findClass_of_methodNamed B.named
  have hK : kc_K G s := hv.2.2
  have hC := kc_start hv
  have hl := lv_entry ([.ref (kg_h G), .int (nI r), .int (nI q)]) (n := 4) (Nat.le_of_ble_eq_true rfl)
  rw [lg_entry_eq]
  generalize (lg_sl ([.ref (kg_h G), .int (nI r), .int (nI q)]) ++ List.replicate (4 - (lg_sl ([.ref (kg_h G), .int (nI r), .int (nI q)])).length) Slot.unset).toArray = ls at hl ⊢
  have hl : lv_has ls 4 [(0, .ref (kg_h G)), (1, .int (nI r)), (2, .int (nI q))] := hl
  refine lv_iconst (v := (nI 0)) hx hb dX0_isFirstWithItsFrame_0 (by decide +kernel) ?_
  refine lv_istore_n (lv' := [(3, .int (nI 0)), (0, .ref (kg_h G)), (1, .int (nI r)), (2, .int (nI q))]) hx hb dX0_isFirstWithItsFrame_1 rfl hl (by decide) rfl (fun ls hl => ?_)
  have loop : ∀ (n : Nat) (i : Nat) (ls : Array Slot) (H : Heap) (locs : List Loc), i + n = q → (∀ j, j < i → ks_F S r j ≠ ks_F S r q) → lv_has ls 4 [(3, .int (nI i)), (0, .ref (kg_h G)), (1, .int (nI r)), (2, .int (nI q))] → kc_at G (kg_A G) s.heap S H locs → W p l e (headSpec wX0_isFirstWithItsFrame ({ frames := 0, cells := 0, slots := 0, locals := 0 })).room s m [.ref (kg_h G), .int (nI r), .int (nI q)].toArray below meth c H locs 0 0 (MQ below (va_Qi (fun (v : Int32) (S' : ks_T) => v = (if ks_fst S r q = true then 1 else 0) ∧ S' = S) (kc_q G) (kg_A G)) [.ref (kg_h G), .int (nI r), .int (nI q)].toArray s 0 0 (kg_A G)) (F0 m 2 ls []) := by
    intro n
    induction n with
    | zero =>
      intro i ls H locs hm hI hl hC
      refine lv_iload_n hx hb dX0_isFirstWithItsFrame_2 rfl (lv_at hl 0 rfl) ?_
      refine lv_iload_n hx hb dX0_isFirstWithItsFrame_3 rfl (lv_at hl 3 rfl) ?_
      refine wn_ge (tgt := 34) hx hb (by omega) (by omega) dX0_isFirstWithItsFrame_4 rfl (fun _ => ?_) (fun h9 => absurd h9 (by omega))
      refine lv_iconst (v := (nI 1)) hx hb dX0_isFirstWithItsFrame_34 (by decide +kernel) ?_
      have e : ks_fst S r q = true := ks_fst_t (fun j hj => hI j (by omega))
      exact kr_zret hx hb hr hlk hC (by decide +kernel) (⟨by rw [e]; rfl, rfl⟩) dX0_isFirstWithItsFrame_35
    | succ n ih =>
      intro i ls H locs hm hI hl hC
      refine lv_iload_n hx hb dX0_isFirstWithItsFrame_2 rfl (lv_at hl 0 rfl) ?_
      refine lv_iload_n hx hb dX0_isFirstWithItsFrame_3 rfl (lv_at hl 3 rfl) ?_
      refine wn_ge (tgt := 34) hx hb (by omega) (by omega) dX0_isFirstWithItsFrame_4 rfl (fun h9 => absurd h9 (by omega)) (fun _ => ?_)
      have hF := hV.1 r i h40 (by omega)
      have hF2 := hV.1 r q h40 (by omega)
      refine lv_aload_n hx hb dX0_isFirstWithItsFrame_7 rfl (lv_at hl 1 rfl) ?_
      refine kr_get hx hb hT kx_in hown hK hC 1 (by decide) (hT _ mw_26) rfl rfl dX0_isFirstWithItsFrame_8 ?_
      refine lv_iload_n hx hb dX0_isFirstWithItsFrame_11 rfl (lv_at hl 2 rfl) ?_
      refine kr_aF hx hb hK hC (by omega) dX0_isFirstWithItsFrame_12 ?_
      refine lv_iload_n hx hb dX0_isFirstWithItsFrame_13 rfl (lv_at hl 0 rfl) ?_
      refine kr_ldF hx hb hK hC (by omega) (by omega) dX0_isFirstWithItsFrame_14 ?_
      refine lv_aload_n hx hb dX0_isFirstWithItsFrame_15 rfl (lv_at hl 1 rfl) ?_
      refine kr_get hx hb hT kx_in hown hK hC 1 (by decide) (hT _ mw_26) rfl rfl dX0_isFirstWithItsFrame_16 ?_
      refine lv_iload_n hx hb dX0_isFirstWithItsFrame_19 rfl (lv_at hl 2 rfl) ?_
      refine kr_aF hx hb hK hC (by omega) dX0_isFirstWithItsFrame_20 ?_
      refine lv_iload_n hx hb dX0_isFirstWithItsFrame_21 rfl (lv_at hl 3 rfl) ?_
      refine kr_ldF hx hb hK hC (by omega) (by omega) dX0_isFirstWithItsFrame_22 ?_
      refine wn_ne (tgt := 28) hx hb (by omega) (by omega) dX0_isFirstWithItsFrame_23 rfl (fun h3 => ?_) (fun h3 => ?_)
      · refine lv_iinc (lv' := [(3, .int (nI (i + 1))), (0, .ref (kg_h G)), (1, .int (nI r)), (2, .int (nI q))]) (v := (nI (i + 1))) (k := 0) hx hb dX0_isFirstWithItsFrame_28 hl rfl (nI_1 _) (by decide) rfl (fun ls hl => ?_)
        refine lv_goto (tgt := 2) hx hb dX0_isFirstWithItsFrame_31 rfl ?_
        exact ih (i + 1) ls H locs (by omega) (lt_s hI h3) hl hC
      · refine lv_iconst (v := (nI 0)) hx hb dX0_isFirstWithItsFrame_26 (by decide +kernel) ?_
        have e : ks_fst S r q = false := ks_fst_f (j := i) (by omega) h3
        exact kr_zret hx hb hr hlk hC (by decide +kernel) (⟨by rw [e]; rfl, rfl⟩) dX0_isFirstWithItsFrame_27
  exact loop q 0 ls s.heap [] (by omega) lt_0 hl hC
set_option maxHeartbeats 4000000 in
set_option maxRecDepth 100000 in
/-- framesOf(r) -/
theorem k0_framesOf (l : Launch) (G : kg_T) (S : ks_T) (r k : Nat) (h40 : r < 40) (hk : ks_P S r = k + 1) (h33 : k ≤ 32) (hV : kv_c S) : Met l yX0_framesOf wX0_framesOf ({ frames := 1, cells := 0, slots := 0, locals := 32 }) (va_Pc [.ref (kg_h G), .int (nI r)] (kc_p G S)) (va_Qi (fun (v : Int32) (S' : ks_T) => v = nI (ct_b (fun p => decide (ks_F S r p ≠ 0) && ks_fst S r p) k) ∧ S' = S) (kc_q G) (kg_A G)) 0 0 (kg_A G) := by
  refine Met.ofW (cc := cX0_framesOf) (maxL := 4) (ret := (some .int)) (by decide) rfl ?_
  intro p e s m args below meth c s₁ B hml hv
  obtain ⟨rfl, hv⟩ := hv
  have hx := B.exec
  have hb := B.bytes
  have hr := B.returns
  have hlk := B.notSynchronized
  have hts := atoms_spec (ws := wX0_framesOf) B.pre
  have hT : ∀ w ∈ nw_T, w.before _ s = true := fun w h => hts w (List.mem_cons_of_mem _ h)
  have hown : s.vm.findClass RX0 = some m.cls := findClass_of_methodNamed B.named
  have hK : kc_K G s := hv.2.2
  have hC := kc_start hv
  have hl := lv_entry ([.ref (kg_h G), .int (nI r)]) (n := 4) (Nat.le_of_ble_eq_true rfl)
  rw [lg_entry_eq]
  generalize (lg_sl ([.ref (kg_h G), .int (nI r)]) ++ List.replicate (4 - (lg_sl ([.ref (kg_h G), .int (nI r)])).length) Slot.unset).toArray = ls at hl ⊢
  have hl : lv_has ls 4 [(0, .ref (kg_h G)), (1, .int (nI r))] := hl
  have ek : ks_e (ks_P S r) = nI k := by rw [ks_es (by omega), hk]; rfl
  refine lv_iconst (v := (nI 0)) hx hb dX0_framesOf_0 (by decide +kernel) ?_
  refine lv_istore_n (lv' := [(2, .int (nI 0)), (0, .ref (kg_h G)), (1, .int (nI r))]) hx hb dX0_framesOf_1 rfl hl (by decide) rfl (fun ls hl => ?_)
  refine lv_iconst (v := (nI 0)) hx hb dX0_framesOf_2 (by decide +kernel) ?_
  refine lv_istore_n (lv' := [(3, .int (nI 0)), (2, .int (nI 0)), (0, .ref (kg_h G)), (1, .int (nI r))]) hx hb dX0_framesOf_3 rfl hl (by decide) rfl (fun ls hl => ?_)
  have loop : ∀ (n : Nat) (i : Nat) (d : Nat) (ls : Array Slot) (H : Heap) (locs : List Loc), i + n = k → d = ct_b (fun p => decide (ks_F S r p ≠ 0) && ks_fst S r p) i → lv_has ls 4 [(3, .int (nI i)), (2, .int (nI d)), (0, .ref (kg_h G)), (1, .int (nI r))] → kc_at G (kg_A G) s.heap S H locs → W p l e (headSpec wX0_framesOf ({ frames := 1, cells := 0, slots := 0, locals := 32 })).room s m [.ref (kg_h G), .int (nI r)].toArray below meth c H locs 0 0 (MQ below (va_Qi (fun (v : Int32) (S' : ks_T) => v = nI (ct_b (fun p => decide (ks_F S r p ≠ 0) && ks_fst S r p) k) ∧ S' = S) (kc_q G) (kg_A G)) [.ref (kg_h G), .int (nI r)].toArray s 0 0 (kg_A G)) (F0 m 4 ls []) := by
    intro n
    induction n with
    | zero =>
      intro i d ls H locs hm hc hl hC
      refine lv_iload_n hx hb dX0_framesOf_4 rfl (lv_at hl 0 rfl) ?_
      refine lv_aload_n hx hb dX0_framesOf_5 rfl (lv_at hl 2 rfl) ?_
      refine kr_get hx hb hT kx_in hown hK hC 0 (by decide) (hT _ mw_25) rfl rfl dX0_framesOf_6 ?_
      refine lv_iload_n hx hb dX0_framesOf_9 rfl (lv_at hl 3 rfl) ?_
      refine kr_ldP hx hb hK hC (by omega) dX0_framesOf_10 ?_
      rw [ek]
      refine wn_ge (tgt := 43) hx hb (by omega) (by omega) dX0_framesOf_11 rfl (fun _ => ?_) (fun h9 => absurd h9 (by omega))
      refine lv_iload_n hx hb dX0_framesOf_43 rfl (lv_at hl 1 rfl) ?_
      have e : i = k := by omega
      exact kr_iret hx hb hr hlk hC (⟨by rw [hc, e], rfl⟩) dX0_framesOf_44
    | succ n ih =>
      intro i d ls H locs hm hc hl hC
      refine lv_iload_n hx hb dX0_framesOf_4 rfl (lv_at hl 0 rfl) ?_
      refine lv_aload_n hx hb dX0_framesOf_5 rfl (lv_at hl 2 rfl) ?_
      refine kr_get hx hb hT kx_in hown hK hC 0 (by decide) (hT _ mw_25) rfl rfl dX0_framesOf_6 ?_
      refine lv_iload_n hx hb dX0_framesOf_9 rfl (lv_at hl 3 rfl) ?_
      refine kr_ldP hx hb hK hC (by omega) dX0_framesOf_10 ?_
      rw [ek]
      refine wn_ge (tgt := 43) hx hb (by omega) (by omega) dX0_framesOf_11 rfl (fun h9 => absurd h9 (by omega)) (fun _ => ?_)
      have hF := hV.1 r i h40 (by omega)
      refine lv_aload_n hx hb dX0_framesOf_14 rfl (lv_at hl 2 rfl) ?_
      refine kr_get hx hb hT kx_in hown hK hC 1 (by decide) (hT _ mw_26) rfl rfl dX0_framesOf_15 ?_
      refine lv_iload_n hx hb dX0_framesOf_18 rfl (lv_at hl 3 rfl) ?_
      refine kr_aF hx hb hK hC (by omega) dX0_framesOf_19 ?_
      refine lv_iload_n hx hb dX0_framesOf_20 rfl (lv_at hl 0 rfl) ?_
      refine kr_ldF hx hb hK hC (by omega) (by omega) dX0_framesOf_21 ?_
      refine wn_if0 (tgt := 37) hx hb (by omega) dX0_framesOf_22 rfl (fun h3 => ?_) (fun h3 => ?_)
      · refine lv_iinc (lv' := [(3, .int (nI (i + 1))), (2, .int (nI d)), (0, .ref (kg_h G)), (1, .int (nI r))]) (v := (nI (i + 1))) (k := 0) hx hb dX0_framesOf_37 hl rfl (nI_1 _) (by decide) rfl (fun ls hl => ?_)
        refine lv_goto (tgt := 4) hx hb dX0_framesOf_40 rfl ?_
        exact ih (i + 1) d ls H locs (by omega) (by rw [hc]; exact (ct_b_f (q := (fun p => decide (ks_F S r p ≠ 0) && ks_fst S r p)) (by show (decide (ks_F S r i ≠ 0) && _) = false; rw [decide_eq_false (fun w => w h3)]; rfl)).symm) hl hC
      · refine lv_aload_n hx hb dX0_framesOf_25 rfl (lv_at hl 2 rfl) ?_
        refine lv_iload_n hx hb dX0_framesOf_26 rfl (lv_at hl 3 rfl) ?_
        refine lv_iload_n hx hb dX0_framesOf_27 rfl (lv_at hl 0 rfl) ?_
        refine kr_ci (As := [.int (nI r), .int (nI i)]) (rest := []) ⟨hx, hb, hml, hown, hts⟩ (k0_isFirstWithItsFrame l G S r i h40 (by omega) hV) (cwV 2 hts gX0_138 rfl rfl rfl hX0_isFirstWithItsFrame ⟨Nat.le_of_ble_eq_true rfl, Nat.le_of_ble_eq_true rfl⟩) hK hC rfl hl.1 rfl (Nat.le_of_ble_eq_true rfl) dX0_framesOf_28 ⟨Nat.zero_le _, Nat.zero_le _⟩ (fun v S1 H locs hp hC => ?_)
        obtain ⟨hv1, hS1⟩ := hp
        rw [hS1] at hC
        refine lv_if_eq (tgt := 37) hx hb dX0_framesOf_31 rfl (fun h4 => ?_) (fun h4 => ?_)
        · have e : ks_fst S r i = false := by
            cases hb : ks_fst S r i
            · rfl
            · rw [hv1, hb] at h4; exact absurd h4 (by decide)
          refine lv_iinc (lv' := [(3, .int (nI (i + 1))), (2, .int (nI d)), (0, .ref (kg_h G)), (1, .int (nI r))]) (v := (nI (i + 1))) (k := 0) hx hb dX0_framesOf_37 hl rfl (nI_1 _) (by decide) rfl (fun ls hl => ?_)
          refine lv_goto (tgt := 4) hx hb dX0_framesOf_40 rfl ?_
          exact ih (i + 1) d ls H locs (by omega) (by rw [hc]; exact (ct_b_f (q := (fun p => decide (ks_F S r p ≠ 0) && ks_fst S r p)) (by show (_ && ks_fst S r i) = false; rw [e, Bool.and_false])).symm) hl hC
        · have e : ks_fst S r i = true := by
            cases hb : ks_fst S r i
            · rw [hv1, hb] at h4; exact absurd rfl h4
            · rfl
          refine lv_iinc (lv' := [(2, .int (nI (d + 1))), (3, .int (nI i)), (0, .ref (kg_h G)), (1, .int (nI r))]) (v := (nI (d + 1))) (k := 1) hx hb dX0_framesOf_34 hl rfl (nI_1 _) (by decide) rfl (fun ls hl => ?_)
          refine lv_iinc (lv' := [(3, .int (nI (i + 1))), (2, .int (nI (d + 1))), (0, .ref (kg_h G)), (1, .int (nI r))]) (v := (nI (i + 1))) (k := 1) hx hb dX0_framesOf_37 hl rfl (nI_1 _) (by decide) rfl (fun ls hl => ?_)
          refine lv_goto (tgt := 4) hx hb dX0_framesOf_40 rfl ?_
          exact ih (i + 1) (d + 1) ls H locs (by omega) (by rw [hc]; exact (ct_b_t (q := (fun p => decide (ks_F S r p ≠ 0) && ks_fst S r p)) (by show (decide (ks_F S r i ≠ 0) && ks_fst S r i) = true; rw [e, decide_eq_true h3]; rfl)).symm) hl hC
  exact loop k 0 0 ls s.heap [] (by omega) rfl hl hC
set_option maxHeartbeats 4000000 in
set_option maxRecDepth 100000 in
/-- rowsThere() -/
theorem k0_rowsThere (l : Launch) (G : kg_T) (S : ks_T) (hP : ∀ r, r < 40 → ks_P S r ≤ 33) : Met l yX0_rowsThere wX0_rowsThere ({ frames := 1, cells := 0, slots := 0, locals := 32 }) (va_Pc [.ref (kg_h G)] (kc_p G S)) (va_Qi (fun (v : Int32) (S' : ks_T) => v = nI (ct_b (fun r => decide (ks_P S r ≠ 0)) 40) ∧ S' = S) (kc_q G) (kg_A G)) 0 0 (kg_A G) := by
  refine Met.ofW (cc := cX0_rowsThere) (maxL := 3) (ret := (some .int)) (by decide) rfl ?_
  intro p e s m args below meth c s₁ B hml hv
  obtain ⟨rfl, hv⟩ := hv
  have hx := B.exec
  have hb := B.bytes
  have hr := B.returns
  have hlk := B.notSynchronized
  have hts := atoms_spec (ws := wX0_rowsThere) B.pre
  have hT : ∀ w ∈ nw_T, w.before _ s = true := fun w h => hts w (List.mem_cons_of_mem _ h)
  have hown : s.vm.findClass RX0 = some m.cls := findClass_of_methodNamed B.named
  have hK : kc_K G s := hv.2.2
  have hC := kc_start hv
  have hl := lv_entry ([.ref (kg_h G)]) (n := 3) (Nat.le_of_ble_eq_true rfl)
  rw [lg_entry_eq]
  generalize (lg_sl ([.ref (kg_h G)]) ++ List.replicate (3 - (lg_sl ([.ref (kg_h G)])).length) Slot.unset).toArray = ls at hl ⊢
  have hl : lv_has ls 3 [(0, .ref (kg_h G))] := hl
  refine lv_iconst (v := (nI 0)) hx hb dX0_rowsThere_0 (by decide +kernel) ?_
  refine lv_istore_n (lv' := [(1, .int (nI 0)), (0, .ref (kg_h G))]) hx hb dX0_rowsThere_1 rfl hl (by decide) rfl (fun ls hl => ?_)
  refine lv_iconst (v := (nI 0)) hx hb dX0_rowsThere_2 (by decide +kernel) ?_
  refine lv_istore_n (lv' := [(2, .int (nI 0)), (1, .int (nI 0)), (0, .ref (kg_h G))]) hx hb dX0_rowsThere_3 rfl hl (by decide) rfl (fun ls hl => ?_)
  have loop : ∀ (n : Nat) (i : Nat) (d : Nat) (ls : Array Slot) (H : Heap) (locs : List Loc), i + n = 40 → d = ct_b (fun r => decide (ks_P S r ≠ 0)) i → lv_has ls 3 [(2, .int (nI i)), (1, .int (nI d)), (0, .ref (kg_h G))] → kc_at G (kg_A G) s.heap S H locs → W p l e (headSpec wX0_rowsThere ({ frames := 1, cells := 0, slots := 0, locals := 32 })).room s m [.ref (kg_h G)].toArray below meth c H locs 0 0 (MQ below (va_Qi (fun (v : Int32) (S' : ks_T) => v = nI (ct_b (fun r => decide (ks_P S r ≠ 0)) 40) ∧ S' = S) (kc_q G) (kg_A G)) [.ref (kg_h G)].toArray s 0 0 (kg_A G)) (F0 m 4 ls []) := by
    intro n
    induction n with
    | zero =>
      intro i d ls H locs hm hc hl hC
      refine lv_iload_n hx hb dX0_rowsThere_4 rfl (lv_at hl 0 rfl) ?_
      refine lv_bipush (v := (nI 40)) hx hb dX0_rowsThere_5 (by decide +kernel) ?_
      refine wn_ge (tgt := 27) hx hb (by omega) (by omega) dX0_rowsThere_7 rfl (fun _ => ?_) (fun h9 => absurd h9 (by omega))
      refine lv_iload_n hx hb dX0_rowsThere_27 rfl (lv_at hl 1 rfl) ?_
      have e : i = 40 := by omega
      exact kr_iret hx hb hr hlk hC (⟨by rw [hc, e], rfl⟩) dX0_rowsThere_28
    | succ n ih =>
      intro i d ls H locs hm hc hl hC
      refine lv_iload_n hx hb dX0_rowsThere_4 rfl (lv_at hl 0 rfl) ?_
      refine lv_bipush (v := (nI 40)) hx hb dX0_rowsThere_5 (by decide +kernel) ?_
      refine wn_ge (tgt := 27) hx hb (by omega) (by omega) dX0_rowsThere_7 rfl (fun h9 => absurd h9 (by omega)) (fun _ => ?_)
      refine lv_aload_n hx hb dX0_rowsThere_10 rfl (lv_at hl 2 rfl) ?_
      refine lv_iload_n hx hb dX0_rowsThere_11 rfl (lv_at hl 0 rfl) ?_
      refine kr_ci (As := [.int (nI i)]) (rest := []) ⟨hx, hb, hml, hown, hts⟩ (k0_isRow l G S (nI i) hP) (cwV 1 hts gX0_113 rfl rfl rfl hX0_isRow ⟨Nat.le_of_ble_eq_true rfl, Nat.le_of_ble_eq_true rfl⟩) hK hC rfl hl.1 rfl (Nat.le_of_ble_eq_true rfl) dX0_rowsThere_12 ⟨Nat.zero_le _, Nat.zero_le _⟩ (fun v S1 H locs hp hC => ?_)
      obtain ⟨hv1, hS1⟩ := hp
      rw [hS1] at hC
      rw [ks_row_at (by omega)] at hv1
      refine lv_if_eq (tgt := 21) hx hb dX0_rowsThere_15 rfl (fun h4 => ?_) (fun h4 => ?_)
      · have e : ks_P S i = 0 := by
          by_cases hb : ks_P S i = 0
          · exact hb
          · rw [hv1, decide_eq_true hb] at h4; exact absurd h4 (by decide)
        refine lv_iinc (lv' := [(2, .int (nI (i + 1))), (1, .int (nI d)), (0, .ref (kg_h G))]) (v := (nI (i + 1))) (k := 0) hx hb dX0_rowsThere_21 hl rfl (nI_1 _) (by decide) rfl (fun ls hl => ?_)
        refine lv_goto (tgt := 4) hx hb dX0_rowsThere_24 rfl ?_
        exact ih (i + 1) d ls H locs (by omega) (by rw [hc]; exact (ct_b_f (decide_eq_false (fun w => w e))).symm) hl hC
      · have e : ks_P S i ≠ 0 := by
          intro hb
          rw [hv1, decide_eq_false (fun w => w hb)] at h4; exact absurd rfl h4
        refine lv_iinc (lv' := [(1, .int (nI (d + 1))), (2, .int (nI i)), (0, .ref (kg_h G))]) (v := (nI (d + 1))) (k := 1) hx hb dX0_rowsThere_18 hl rfl (nI_1 _) (by decide) rfl (fun ls hl => ?_)
        refine lv_iinc (lv' := [(2, .int (nI (i + 1))), (1, .int (nI (d + 1))), (0, .ref (kg_h G))]) (v := (nI (i + 1))) (k := 1) hx hb dX0_rowsThere_21 hl rfl (nI_1 _) (by decide) rfl (fun ls hl => ?_)
        refine lv_goto (tgt := 4) hx hb dX0_rowsThere_24 rfl ?_
        exact ih (i + 1) (d + 1) ls H locs (by omega) (by rw [hc]; exact (ct_b_t (decide_eq_true e)).symm) hl hC
  exact loop 40 0 0 ls s.heap [] rfl rfl hl hC
set_option maxHeartbeats 4000000 in
set_option maxRecDepth 100000 in
/-- pagesThere() -/
theorem k0_pagesThere (l : Launch) (G : kg_T) (S : ks_T) (hP : ∀ r, r < 40 → ks_P S r ≤ 33) : Met l yX0_pagesThere wX0_pagesThere ({ frames := 1, cells := 0, slots := 0, locals := 32 }) (va_Pc [.ref (kg_h G)] (kc_p G S)) (va_Qi (fun (v : Int32) (S' : ks_T) => v = nI (ct_s (fun r => ks_P S r - 1) 40) ∧ S' = S) (kc_q G) (kg_A G)) 0 0 (kg_A G) := by
  refine Met.ofW (cc := cX0_pagesThere) (maxL := 3) (ret := (some .int)) (by decide) rfl ?_
  intro p e s m args below meth c s₁ B hml hv
  obtain ⟨rfl, hv⟩ := hv
  have hx := B.exec
  have hb := B.bytes
  have hr := B.returns
  have hlk := B.notSynchronized
  have hts := atoms_spec (ws := wX0_pagesThere) B.pre
  have hT : ∀ w ∈ nw_T, w.before _ s = true := fun w h => hts w (List.mem_cons_of_mem _ h)
  have hown : s.vm.findClass RX0 = some m.cls := findClass_of_methodNamed B.named
  have hK : kc_K G s := hv.2.2
  have hC := kc_start hv
  have hl := lv_entry ([.ref (kg_h G)]) (n := 3) (Nat.le_of_ble_eq_true rfl)
  rw [lg_entry_eq]
  generalize (lg_sl ([.ref (kg_h G)]) ++ List.replicate (3 - (lg_sl ([.ref (kg_h G)])).length) Slot.unset).toArray = ls at hl ⊢
  have hl : lv_has ls 3 [(0, .ref (kg_h G))] := hl
  refine lv_iconst (v := (nI 0)) hx hb dX0_pagesThere_0 (by decide +kernel) ?_
  refine lv_istore_n (lv' := [(1, .int (nI 0)), (0, .ref (kg_h G))]) hx hb dX0_pagesThere_1 rfl hl (by decide) rfl (fun ls hl => ?_)
  refine lv_iconst (v := (nI 0)) hx hb dX0_pagesThere_2 (by decide +kernel) ?_
  refine lv_istore_n (lv' := [(2, .int (nI 0)), (1, .int (nI 0)), (0, .ref (kg_h G))]) hx hb dX0_pagesThere_3 rfl hl (by decide) rfl (fun ls hl => ?_)
  have loop : ∀ (n : Nat) (i : Nat) (d : Nat) (ls : Array Slot) (H : Heap) (locs : List Loc), i + n = 40 → d = ct_s (fun r => ks_P S r - 1) i → lv_has ls 3 [(2, .int (nI i)), (1, .int (nI d)), (0, .ref (kg_h G))] → kc_at G (kg_A G) s.heap S H locs → W p l e (headSpec wX0_pagesThere ({ frames := 1, cells := 0, slots := 0, locals := 32 })).room s m [.ref (kg_h G)].toArray below meth c H locs 0 0 (MQ below (va_Qi (fun (v : Int32) (S' : ks_T) => v = nI (ct_s (fun r => ks_P S r - 1) 40) ∧ S' = S) (kc_q G) (kg_A G)) [.ref (kg_h G)].toArray s 0 0 (kg_A G)) (F0 m 4 ls []) := by
    intro n
    induction n with
    | zero =>
      intro i d ls H locs hm hc hl hC
      refine lv_iload_n hx hb dX0_pagesThere_4 rfl (lv_at hl 0 rfl) ?_
      refine lv_bipush (v := (nI 40)) hx hb dX0_pagesThere_5 (by decide +kernel) ?_
      refine wn_ge (tgt := 33) hx hb (by omega) (by omega) dX0_pagesThere_7 rfl (fun _ => ?_) (fun h9 => absurd h9 (by omega))
      refine lv_iload_n hx hb dX0_pagesThere_33 rfl (lv_at hl 1 rfl) ?_
      have e : i = 40 := by omega
      exact kr_iret hx hb hr hlk hC (⟨by rw [hc, e], rfl⟩) dX0_pagesThere_34
    | succ n ih =>
      intro i d ls H locs hm hc hl hC
      refine lv_iload_n hx hb dX0_pagesThere_4 rfl (lv_at hl 0 rfl) ?_
      refine lv_bipush (v := (nI 40)) hx hb dX0_pagesThere_5 (by decide +kernel) ?_
      refine wn_ge (tgt := 33) hx hb (by omega) (by omega) dX0_pagesThere_7 rfl (fun h9 => absurd h9 (by omega)) (fun _ => ?_)
      refine lv_aload_n hx hb dX0_pagesThere_10 rfl (lv_at hl 2 rfl) ?_
      refine lv_iload_n hx hb dX0_pagesThere_11 rfl (lv_at hl 0 rfl) ?_
      refine kr_ci (As := [.int (nI i)]) (rest := []) ⟨hx, hb, hml, hown, hts⟩ (k0_isRow l G S (nI i) hP) (cwV 1 hts gX0_113 rfl rfl rfl hX0_isRow ⟨Nat.le_of_ble_eq_true rfl, Nat.le_of_ble_eq_true rfl⟩) hK hC rfl hl.1 rfl (Nat.le_of_ble_eq_true rfl) dX0_pagesThere_12 ⟨Nat.zero_le _, Nat.zero_le _⟩ (fun v S1 H locs hp hC => ?_)
      obtain ⟨hv1, hS1⟩ := hp
      rw [hS1] at hC
      rw [ks_row_at (by omega)] at hv1
      refine lv_if_eq (tgt := 27) hx hb dX0_pagesThere_15 rfl (fun h4 => ?_) (fun h4 => ?_)
      · have e : ks_P S i = 0 := by
          by_cases hb : ks_P S i = 0
          · exact hb
          · rw [hv1, decide_eq_true hb] at h4; exact absurd h4 (by decide)
        refine lv_iinc (lv' := [(2, .int (nI (i + 1))), (1, .int (nI d)), (0, .ref (kg_h G))]) (v := (nI (i + 1))) (k := 0) hx hb dX0_pagesThere_27 hl rfl (nI_1 _) (by decide) rfl (fun ls hl => ?_)
        refine lv_goto (tgt := 4) hx hb dX0_pagesThere_30 rfl ?_
        exact ih (i + 1) d ls H locs (by omega) (by rw [hc]; show _ = ct_s _ i + (ks_P S i - 1); rw [e]; rfl) hl hC
      · have e : ks_P S i ≠ 0 := by
          intro hb
          rw [hv1, decide_eq_false (fun w => w hb)] at h4; exact absurd rfl h4
        refine lv_iload_n hx hb dX0_pagesThere_18 rfl (lv_at hl 1 rfl) ?_
        refine lv_aload_n hx hb dX0_pagesThere_19 rfl (lv_at hl 2 rfl) ?_
        refine kr_get hx hb hT kx_in hown hK hC 0 (by decide) (hT _ mw_25) rfl rfl dX0_pagesThere_20 ?_
        refine lv_iload_n hx hb dX0_pagesThere_23 rfl (lv_at hl 0 rfl) ?_
        refine kr_ldP hx hb hK hC (by omega) dX0_pagesThere_24 ?_
        rw [ks_es e]
        refine wn_add hx hb dX0_pagesThere_25 ?_
        refine lv_istore_n (lv' := [(1, .int (nI (d + (ks_P S i - 1)))), (2, .int (nI i)), (0, .ref (kg_h G))]) hx hb dX0_pagesThere_26 rfl hl (by decide) rfl (fun ls hl => ?_)
        refine lv_iinc (lv' := [(2, .int (nI (i + 1))), (1, .int (nI (d + (ks_P S i - 1)))), (0, .ref (kg_h G))]) (v := (nI (i + 1))) (k := 1) hx hb dX0_pagesThere_27 hl rfl (nI_1 _) (by decide) rfl (fun ls hl => ?_)
        refine lv_goto (tgt := 4) hx hb dX0_pagesThere_30 rfl ?_
        exact ih (i + 1) (d + (ks_P S i - 1)) ls H locs (by omega) (by rw [hc]; rfl) hl hC
  exact loop 40 0 0 ls s.heap [] rfl rfl hl hC
set_option maxHeartbeats 4000000 in
set_option maxRecDepth 100000 in
/-- framesThere() -/
theorem k0_framesThere (l : Launch) (G : kg_T) (S : ks_T) (hV : kv_c S) : Met l yX0_framesThere wX0_framesThere ({ frames := 0, cells := 0, slots := 0, locals := 0 }) (va_Pc [.ref (kg_h G)] (kc_p G S)) (va_Qi (fun (v : Int32) (S' : ks_T) => v = nI (nz_f (ks_H S)) ∧ S' = S) (kc_q G) (kg_A G)) 0 0 (kg_A G) := by
  refine Met.ofW (cc := cX0_framesThere) (maxL := 3) (ret := (some .int)) (by decide) rfl ?_
  intro p e s m args below meth c s₁ B hml hv
  obtain ⟨rfl, hv⟩ := hv
  have hx := B.exec
  have hb := B.bytes
  have hr := B.returns
  have hlk := B.notSynchronized
  have hts := atoms_spec (ws := wX0_framesThere) B.pre
  have hT : ∀ w ∈ nw_T, w.before _ s = true := fun w h => hts w (List.mem_cons_of_mem _ h)
  have hown : s.vm.findClass RX0 = some m.cls := findClass_of_methodNamed B.named
  have hK : kc_K G s := hv.2.2
  have hC := kc_start hv
  have hl := lv_entry ([.ref (kg_h G)]) (n := 3) (Nat.le_of_ble_eq_true rfl)
  rw [lg_entry_eq]
  generalize (lg_sl ([.ref (kg_h G)]) ++ List.replicate (3 - (lg_sl ([.ref (kg_h G)])).length) Slot.unset).toArray = ls at hl ⊢
  have hl : lv_has ls 3 [(0, .ref (kg_h G))] := hl
  refine lv_iconst (v := (nI 0)) hx hb dX0_framesThere_0 (by decide +kernel) ?_
  refine lv_istore_n (lv' := [(1, .int (nI 0)), (0, .ref (kg_h G))]) hx hb dX0_framesThere_1 rfl hl (by decide) rfl (fun ls hl => ?_)
  refine lv_iconst (v := (nI 1)) hx hb dX0_framesThere_2 (by decide +kernel) ?_
  refine lv_istore_n (lv' := [(2, .int (nI 1)), (1, .int (nI 0)), (0, .ref (kg_h G))]) hx hb dX0_framesThere_3 rfl hl (by decide) rfl (fun ls hl => ?_)
  have loop : ∀ (n : Nat) (i : Nat) (d : Nat) (ls : Array Slot) (H : Heap) (locs : List Loc), i + n = 201 → 1 ≤ i → d = ct_b (fun i => decide (0 < ks_H S (i + 1))) (i - 1) → lv_has ls 3 [(2, .int (nI i)), (1, .int (nI d)), (0, .ref (kg_h G))] → kc_at G (kg_A G) s.heap S H locs → W p l e (headSpec wX0_framesThere ({ frames := 0, cells := 0, slots := 0, locals := 0 })).room s m [.ref (kg_h G)].toArray below meth c H locs 0 0 (MQ below (va_Qi (fun (v : Int32) (S' : ks_T) => v = nI (nz_f (ks_H S)) ∧ S' = S) (kc_q G) (kg_A G)) [.ref (kg_h G)].toArray s 0 0 (kg_A G)) (F0 m 4 ls []) := by
    intro n
    induction n with
    | zero =>
      intro i d ls H locs hm h1 hc hl hC
      refine lv_iload_n hx hb dX0_framesThere_4 rfl (lv_at hl 0 rfl) ?_
      refine lv_sipush (v := (nI 200)) hx hb dX0_framesThere_5 (by decide +kernel) ?_
      refine wn_gt (tgt := 29) hx hb (by omega) (by omega) dX0_framesThere_8 rfl (fun _ => ?_) (fun h9 => absurd h9 (by omega))
      refine lv_iload_n hx hb dX0_framesThere_29 rfl (lv_at hl 1 rfl) ?_
      have e : i - 1 = 200 := by omega
      exact kr_iret hx hb hr hlk hC (⟨by rw [hc, e]; rfl, rfl⟩) dX0_framesThere_30
    | succ n ih =>
      intro i d ls H locs hm h1 hc hl hC
      refine lv_iload_n hx hb dX0_framesThere_4 rfl (lv_at hl 0 rfl) ?_
      refine lv_sipush (v := (nI 200)) hx hb dX0_framesThere_5 (by decide +kernel) ?_
      refine wn_gt (tgt := 29) hx hb (by omega) (by omega) dX0_framesThere_8 rfl (fun h9 => absurd h9 (by omega)) (fun _ => ?_)
      have hb1 := kv_le hV (show i < 201 by omega)
      obtain ⟨j, rfl⟩ : ∃ j, i = j + 1 := ⟨i - 1, by omega⟩
      rw [Nat.add_sub_cancel] at hc
      refine lv_aload_n hx hb dX0_framesThere_11 rfl (lv_at hl 2 rfl) ?_
      refine kr_get hx hb hT kx_in hown hK hC 3 (by decide) (hT _ mw_28) rfl rfl dX0_framesThere_12 ?_
      refine lv_iload_n hx hb dX0_framesThere_15 rfl (lv_at hl 0 rfl) ?_
      refine kr_ldH hx hb hK hC (by omega) dX0_framesThere_16 ?_
      refine wn_ifle (tgt := 23) hx hb (by omega) dX0_framesThere_17 rfl (fun h3 => ?_) (fun h3 => ?_)
      · refine lv_iinc (lv' := [(2, .int (nI (j + 1 + 1))), (1, .int (nI d)), (0, .ref (kg_h G))]) (v := (nI (j + 1 + 1))) (k := 0) hx hb dX0_framesThere_23 hl rfl (nI_1 _) (by decide) rfl (fun ls hl => ?_)
        refine lv_goto (tgt := 4) hx hb dX0_framesThere_26 rfl ?_
        exact ih (j + 1 + 1) d ls H locs (by omega) (by omega) (by rw [hc, Nat.add_sub_cancel]; exact (ct_b_f (decide_eq_false (by rw [h3]; omega))).symm) hl hC
      · refine lv_iinc (lv' := [(1, .int (nI (d + 1))), (2, .int (nI (j + 1))), (0, .ref (kg_h G))]) (v := (nI (d + 1))) (k := 1) hx hb dX0_framesThere_20 hl rfl (nI_1 _) (by decide) rfl (fun ls hl => ?_)
        refine lv_iinc (lv' := [(2, .int (nI (j + 1 + 1))), (1, .int (nI (d + 1))), (0, .ref (kg_h G))]) (v := (nI (j + 1 + 1))) (k := 1) hx hb dX0_framesThere_23 hl rfl (nI_1 _) (by decide) rfl (fun ls hl => ?_)
        refine lv_goto (tgt := 4) hx hb dX0_framesThere_26 rfl ?_
        exact ih (j + 1 + 1) (d + 1) ls H locs (by omega) (by omega) (by rw [hc, Nat.add_sub_cancel]; exact (ct_b_t (decide_eq_true h3)).symm) hl hC
  exact loop 200 1 0 ls s.heap [] rfl (by omega) rfl hl hC
set_option maxHeartbeats 4000000 in
set_option maxRecDepth 100000 in
/-- sumOfCells(r) -/
theorem k0_sumOfCells (l : Launch) (G : kg_T) (S : ks_T) (r k : Nat) (h40 : r < 40) (hk : ks_P S r = k + 1) (h33 : k ≤ 32) (hV : kv_c S) : Met l yX0_sumOfCells wX0_sumOfCells ({ frames := 0, cells := 0, slots := 0, locals := 0 }) (va_Pc [.ref (kg_h G), .int (nI r)] (kc_p G S)) (va_Qi (fun (v : Int32) (S' : ks_T) => v = su_r (fun p => ks_C S (ks_F S r p)) k ∧ S' = S) (kc_q G) (kg_A G)) 0 0 (kg_A G) := by
  refine Met.ofW (cc := cX0_sumOfCells) (maxL := 5) (ret := (some .int)) (by decide) rfl ?_
  intro p e s m args below meth c s₁ B hml hv
  obtain ⟨rfl, hv⟩ := hv
  have hx := B.exec
  have hb := B.bytes
  have hr := B.returns
  have hlk := B.notSynchronized
  have hts := atoms_spec (ws := wX0_sumOfCells) B.pre
  have hT : ∀ w ∈ nw_T, w.before _ s = true := fun w h => hts w (List.mem_cons_of_mem _ h)
  have hown : s.vm.findClass RX0 = some m.cls := findClass_of_methodNamed B.named
  have hK : kc_K G s := hv.2.2
  have hC := kc_start hv
  have hl := lv_entry ([.ref (kg_h G), .int (nI r)]) (n := 5) (Nat.le_of_ble_eq_true rfl)
  rw [lg_entry_eq]
  generalize (lg_sl ([.ref (kg_h G), .int (nI r)]) ++ List.replicate (5 - (lg_sl ([.ref (kg_h G), .int (nI r)])).length) Slot.unset).toArray = ls at hl ⊢
  have hl : lv_has ls 5 [(0, .ref (kg_h G)), (1, .int (nI r))] := hl
  have ek : ks_e (ks_P S r) = nI k := by rw [ks_es (by omega), hk]; rfl
  refine lv_iconst (v := (nI 0)) hx hb dX0_sumOfCells_0 (by decide +kernel) ?_
  refine lv_istore_n (lv' := [(2, .int (nI 0)), (0, .ref (kg_h G)), (1, .int (nI r))]) hx hb dX0_sumOfCells_1 rfl hl (by decide) rfl (fun ls hl => ?_)
  refine lv_iconst (v := (nI 0)) hx hb dX0_sumOfCells_2 (by decide +kernel) ?_
  refine lv_istore_n (lv' := [(3, .int (nI 0)), (2, .int (nI 0)), (0, .ref (kg_h G)), (1, .int (nI r))]) hx hb dX0_sumOfCells_3 rfl hl (by decide) rfl (fun ls hl => ?_)
  have loop : ∀ (n : Nat) (i : Nat) (x : Int32) (ls : Array Slot) (H : Heap) (locs : List Loc), i + n = k → x = su_r (fun p => ks_C S (ks_F S r p)) i → lv_has ls 5 [(3, .int (nI i)), (2, .int x), (0, .ref (kg_h G)), (1, .int (nI r))] → kc_at G (kg_A G) s.heap S H locs → W p l e (headSpec wX0_sumOfCells ({ frames := 0, cells := 0, slots := 0, locals := 0 })).room s m [.ref (kg_h G), .int (nI r)].toArray below meth c H locs 0 0 (MQ below (va_Qi (fun (v : Int32) (S' : ks_T) => v = su_r (fun p => ks_C S (ks_F S r p)) k ∧ S' = S) (kc_q G) (kg_A G)) [.ref (kg_h G), .int (nI r)].toArray s 0 0 (kg_A G)) (F0 m 4 ls []) := by
    intro n
    induction n with
    | zero =>
      intro i x ls H locs hm hc hl hC
      refine lv_iload_n hx hb dX0_sumOfCells_4 rfl (lv_at hl 0 rfl) ?_
      refine lv_aload_n hx hb dX0_sumOfCells_5 rfl (lv_at hl 2 rfl) ?_
      refine kr_get hx hb hT kx_in hown hK hC 0 (by decide) (hT _ mw_25) rfl rfl dX0_sumOfCells_6 ?_
      refine lv_iload_n hx hb dX0_sumOfCells_9 rfl (lv_at hl 3 rfl) ?_
      refine kr_ldP hx hb hK hC (by omega) dX0_sumOfCells_10 ?_
      rw [ek]
      refine wn_ge (tgt := 55) hx hb (by omega) (by omega) dX0_sumOfCells_11 rfl (fun _ => ?_) (fun h9 => absurd h9 (by omega))
      refine lv_iload_n hx hb dX0_sumOfCells_55 rfl (lv_at hl 1 rfl) ?_
      have e : i = k := by omega
      exact kr_iret hx hb hr hlk hC (⟨by rw [hc, e], rfl⟩) dX0_sumOfCells_56
    | succ n ih =>
      intro i x ls H locs hm hc hl hC
      refine lv_iload_n hx hb dX0_sumOfCells_4 rfl (lv_at hl 0 rfl) ?_
      refine lv_aload_n hx hb dX0_sumOfCells_5 rfl (lv_at hl 2 rfl) ?_
      refine kr_get hx hb hT kx_in hown hK hC 0 (by decide) (hT _ mw_25) rfl rfl dX0_sumOfCells_6 ?_
      refine lv_iload_n hx hb dX0_sumOfCells_9 rfl (lv_at hl 3 rfl) ?_
      refine kr_ldP hx hb hK hC (by omega) dX0_sumOfCells_10 ?_
      rw [ek]
      refine wn_ge (tgt := 55) hx hb (by omega) (by omega) dX0_sumOfCells_11 rfl (fun h9 => absurd h9 (by omega)) (fun _ => ?_)
      have hF := hV.1 r i h40 (by omega)
      refine lv_iconst (v := (nI 0)) hx hb dX0_sumOfCells_14 (by decide +kernel) ?_
      refine lv_istore (lv' := [(4, .int (nI 0)), (3, .int (nI i)), (2, .int x), (0, .ref (kg_h G)), (1, .int (nI r))]) hx hb dX0_sumOfCells_15 hl (by decide) rfl (fun ls hl => ?_)
      have loop2 : ∀ (n2 : Nat) (j : Nat) (x2 : Int32) (ls : Array Slot) (H : Heap) (locs : List Loc), j + n2 = 8 → x2 = su_r (fun p => ks_C S (ks_F S r p)) i + su_c (ks_C S (ks_F S r i)) j → lv_has ls 5 [(4, .int (nI j)), (3, .int (nI i)), (2, .int x2), (0, .ref (kg_h G)), (1, .int (nI r))] → kc_at G (kg_A G) s.heap S H locs → W p l e (headSpec wX0_sumOfCells ({ frames := 0, cells := 0, slots := 0, locals := 0 })).room s m [.ref (kg_h G), .int (nI r)].toArray below meth c H locs 0 0 (MQ below (va_Qi (fun (v : Int32) (S' : ks_T) => v = su_r (fun p => ks_C S (ks_F S r p)) k ∧ S' = S) (kc_q G) (kg_A G)) [.ref (kg_h G), .int (nI r)].toArray s 0 0 (kg_A G)) (F0 m 17 ls []) := by
        intro n2
        induction n2 with
        | zero =>
          intro j x2 ls H locs hm2 hd hl hC
          refine lv_iload hx hb dX0_sumOfCells_17 (lv_at hl 0 rfl) ?_
          refine lv_bipush (v := (nI 8)) hx hb dX0_sumOfCells_19 (by decide +kernel) ?_
          refine wn_ge (tgt := 49) hx hb (by omega) (by omega) dX0_sumOfCells_21 rfl (fun _ => ?_) (fun h9 => absurd h9 (by omega))
          refine lv_iinc (lv' := [(3, .int (nI (i + 1))), (4, .int (nI j)), (2, .int x2), (0, .ref (kg_h G)), (1, .int (nI r))]) (v := (nI (i + 1))) (k := 1) hx hb dX0_sumOfCells_49 hl rfl (nI_1 _) (by decide) rfl (fun ls hl => ?_)
          refine lv_goto (tgt := 4) hx hb dX0_sumOfCells_52 rfl ?_
          have e : j = 8 := by omega
          have hl := lv_sub (l' := [(3, .int (nI (i + 1))), (2, .int x2), (0, .ref (kg_h G)), (1, .int (nI r))]) hl [0, 2, 3, 4] rfl
          exact ih (i + 1) x2 ls H locs (by omega) (by rw [hd, e]; rfl) hl hC
        | succ n2 ih2 =>
          intro j x2 ls H locs hm2 hd hl hC
          refine lv_iload hx hb dX0_sumOfCells_17 (lv_at hl 0 rfl) ?_
          refine lv_bipush (v := (nI 8)) hx hb dX0_sumOfCells_19 (by decide +kernel) ?_
          refine wn_ge (tgt := 49) hx hb (by omega) (by omega) dX0_sumOfCells_21 rfl (fun h9 => absurd h9 (by omega)) (fun _ => ?_)
          refine lv_iload_n hx hb dX0_sumOfCells_24 rfl (lv_at hl 2 rfl) ?_
          refine lv_aload_n hx hb dX0_sumOfCells_25 rfl (lv_at hl 3 rfl) ?_
          refine kr_get hx hb hT kx_in hown hK hC 2 (by decide) (hT _ mw_27) rfl rfl dX0_sumOfCells_26 ?_
          refine lv_aload_n hx hb dX0_sumOfCells_29 rfl (lv_at hl 3 rfl) ?_
          refine kr_get hx hb hT kx_in hown hK hC 1 (by decide) (hT _ mw_26) rfl rfl dX0_sumOfCells_30 ?_
          refine lv_iload_n hx hb dX0_sumOfCells_33 rfl (lv_at hl 4 rfl) ?_
          refine kr_aF hx hb hK hC (by omega) dX0_sumOfCells_34 ?_
          refine lv_iload_n hx hb dX0_sumOfCells_35 rfl (lv_at hl 1 rfl) ?_
          refine kr_ldF hx hb hK hC (by omega) (by omega) dX0_sumOfCells_36 ?_
          refine kr_aC hx hb hK hC (by omega) dX0_sumOfCells_37 ?_
          refine lv_iload hx hb dX0_sumOfCells_38 (lv_at hl 0 rfl) ?_
          refine kr_ldC hx hb hK hC (by omega) (by omega) dX0_sumOfCells_40 ?_
          refine lv_iadd hx hb dX0_sumOfCells_41 ?_
          refine lv_istore_n (lv' := [(2, .int (x2 + (ks_C S (ks_F S r i) j))), (4, .int (nI j)), (3, .int (nI i)), (0, .ref (kg_h G)), (1, .int (nI r))]) hx hb dX0_sumOfCells_42 rfl hl (by decide) rfl (fun ls hl => ?_)
          refine lv_iinc (lv' := [(4, .int (nI (j + 1))), (2, .int (x2 + (ks_C S (ks_F S r i) j))), (3, .int (nI i)), (0, .ref (kg_h G)), (1, .int (nI r))]) (v := (nI (j + 1))) (k := 1) hx hb dX0_sumOfCells_43 hl rfl (nI_1 _) (by decide) rfl (fun ls hl => ?_)
          refine lv_goto (tgt := 17) hx hb dX0_sumOfCells_46 rfl ?_
          have hl := lv_sub (l' := [(4, .int (nI (j + 1))), (3, .int (nI i)), (2, .int (x2 + ks_C S (ks_F S r i) j)), (0, .ref (kg_h G)), (1, .int (nI r))]) hl [0, 2, 1, 3, 4] rfl
          exact ih2 (j + 1) (x2 + ks_C S (ks_F S r i) j) ls H locs (by omega) (by rw [hd, Int32.add_assoc]; rfl) hl hC
      exact loop2 8 0 x ls H locs rfl (by rw [hc]; exact (Int32.add_zero _).symm) hl hC
  exact loop k 0 (nI 0) ls s.heap [] (by omega) nI_0 hl hC
