/-! the law's wrappers (laid by program) -/
set_option maxHeartbeats 4000000 in
set_option maxRecDepth 100000 in
theorem kL_make (l : Launch) (hl0 : l.stackTraces = false) (G : kg_T) (cJ : ClassId) (o : Nat) (S : ks_T) (f : Nat → Int64) (x : Int32) (hP : ∀ r, r < 40 → ks_P S r ≤ 33) (hV : kv_c S) : Met l yL_make wL_make ({ frames := 10, cells := 2, slots := 12, locals := 200 }) (va_Pc [.ref (kg_h G), .int x, .ref o] (lo_p G cJ o S f)) (va_Qi (fun (v : Int32) (u : ks_T × (Nat → Int64)) => (v = nI 0 ∧ ∃ b, qo_make S x b u.1 ∧ u.2 0 = b.toInt64) ∨ (u.1 = S ∧ ∃ E, qx_make S x E ∧ ((E = kx_iae ∧ v = nI 1) ∨ (E = kx_ise ∧ v = nI 2)))) (lo_q G cJ o) (lo_A G o)) 2 12 (lo_A G o) := by
  refine va_MetW (cc := cL_make) (maxL := 4) (ret := (some .int)) (hh := [(0, 9, 12, 13), (0, 9, 15, 15)]) (by decide) rfl ?_
  intro p e s m args below meth c s₁ B hml hv
  obtain ⟨rfl, hv⟩ := hv
  have hx := B.exec
  have hb := B.bytes
  have hr := B.returns
  have hlk := B.notSynchronized
  have hts := atoms_spec (ws := wL_make) B.pre
  have hT : ∀ w ∈ nw_T, w.before _ s = true := fun w h => hts w (List.mem_cons_of_mem _ h)
  have htab : c.exceptionTable.toList = _ := vx_table (x := yL_make) B (hts _ List.mem_cons_self)
  have hown : s.vm.findClass RL = some m.cls := findClass_of_methodNamed B.named
  obtain ⟨hpx, hO, hK2, hno, hN⟩ := hv
  have hK : kc_K G s := hpx.1.2.2
  have hX := hpx.2
  have hC := kc_start hpx.1
  have hl := lv_entry ([.ref (kg_h G), .int x, .ref o]) (n := 4) (Nat.le_of_ble_eq_true rfl)
  rw [lg_entry_eq]
  generalize (lg_sl ([.ref (kg_h G), .int x, .ref o]) ++ List.replicate (4 - (lg_sl ([.ref (kg_h G), .int x, .ref o])).length) Slot.unset).toArray = ls at hl ⊢
  have hl : lv_has ls 4 [(0, .ref (kg_h G)), (1, .int x), (2, .ref o)] := hl
  refine lv_aload_n hx hb dL_make_0 rfl (lv_at hl 2 rfl) ?_
  refine lv_iconst (v := (nI 0)) hx hb dL_make_1 (by decide +kernel) ?_
  refine lv_aload_n hx hb dL_make_2 rfl (lv_at hl 0 rfl) ?_
  refine lv_iload_n hx hb dL_make_3 rfl (lv_at hl 1 rfl) ?_
  refine kr_xi (As := [.int x]) (rest := [.int (nI 0), .ref o]) (post := qo_make S x) (pe := qx_make S x) ⟨hx, hb, hml, hown, hts⟩ (k0_make l hl0 G S x hP hV) (cwV 1 hts gL_7 rfl rfl rfl hX0_make ⟨Nat.le_of_ble_eq_true rfl, Nat.le_of_ble_eq_true rfl⟩) hK hX hC rfl hl.1 rfl (Nat.le_of_ble_eq_true rfl) dL_make_4 ⟨Nat.le_of_ble_eq_true rfl, Nat.le_of_ble_eq_true rfl⟩ (fun E ce q9 H locs hpe hC hce hcv hcl => ?_) (fun v S1 H locs hp hC => ?_)
  · have hO2 := lo_keep hO hno hC.2.2
    have hS2 := lo_S (o := o) hC.2.2
    have hq := hpe
    rcases hq with ⟨rfl, _⟩ | ⟨rfl, _⟩
    · refine vx_catch (own := RL) (name := kx_iae) hown [] ⟨0, 9, 12, 13⟩ [⟨0, 9, 15, 15⟩] (htab.trans rfl) (fun z hz => absurd hz List.not_mem_nil) (by decide +kernel) (by decide) (hT _ mw_111) (hX.2.2.use _ (by decide +kernel)) hce hcv hcl ?_
      refine lv_astore_n (lv' := [(3, .ref q9), (0, .ref (kg_h G)), (1, .int x), (2, .ref o)]) hx hb dL_make_12 rfl hl (by decide) rfl (fun ls hl => ?_)
      refine lv_iconst (v := (nI 1)) hx hb dL_make_13 (by decide +kernel) ?_
      exact lo_ret hx hb hr hlk hC.1 hC.2.1 hO2 hS2 (Or.inr ⟨rfl, _, hpe, Or.inl ⟨rfl, rfl⟩⟩) dL_make_14 (Nat.le_of_ble_eq_true rfl) (Nat.le_of_ble_eq_true rfl)
    · refine vx_catch (own := RL) (name := kx_ise) hown [⟨0, 9, 12, 13⟩] ⟨0, 9, 15, 15⟩ [] (htab.trans rfl) (fun z hz => by rw [List.mem_singleton.mp hz]; exact Or.inr ⟨by decide, kx_iae, hT _ mw_111, hN.1⟩) (by decide +kernel) (by decide) (hT _ mw_112) (hX.2.2.use _ (by decide +kernel)) hce hcv hcl ?_
      refine lv_astore_n (lv' := [(3, .ref q9), (0, .ref (kg_h G)), (1, .int x), (2, .ref o)]) hx hb dL_make_15 rfl hl (by decide) rfl (fun ls hl => ?_)
      refine lv_iconst (v := (nI 2)) hx hb dL_make_16 (by decide +kernel) ?_
      exact lo_ret hx hb hr hlk hC.1 hC.2.1 hO2 hS2 (Or.inr ⟨rfl, _, hpe, Or.inr ⟨rfl, rfl⟩⟩) dL_make_17 (Nat.le_of_ble_eq_true rfl) (Nat.le_of_ble_eq_true rfl)
  · have hO2 := lo_keep hO hno hC.2.2
    have hS2 := lo_S (o := o) hC.2.2
    refine lv_i2l (v := v.toInt64) hx hb dL_make_7 rfl ?_
    refine lo_st hx hb hK2 hO2 dL_make_8 (fun H3 f1 hf1 hO3 hz3 oq => ?_)
    refine lv_goto (tgt := 18) hx hb dL_make_9 rfl ?_
    refine lv_iconst (v := (nI 0)) hx hb dL_make_18 (by decide +kernel) ?_
    exact lo_ret hx hb hr hlk (lo_put hC.1 hC.2.1 hno oq) hC.2.1 hO3 (hS2.put hz3 oq (Or.inr rfl)) (Or.inl ⟨rfl, v, hp, hf1⟩) dL_make_19 (Nat.le_of_ble_eq_true rfl) (Nat.le_of_ble_eq_true rfl)
set_option maxHeartbeats 4000000 in
set_option maxRecDepth 100000 in
theorem kL_share (l : Launch) (hl0 : l.stackTraces = false) (G : kg_T) (cJ : ClassId) (o : Nat) (S : ks_T) (f : Nat → Int64) (x y z : Int32) (hP : ∀ r, r < 40 → ks_P S r ≤ 33) (hV : kv_c S) : Met l yL_share wL_share ({ frames := 10, cells := 2, slots := 12, locals := 200 }) (va_Pc [.ref (kg_h G), .int x, .int y, .int z, .ref o] (lo_p G cJ o S f)) (va_Qi (fun (v : Int32) (u : ks_T × (Nat → Int64)) => (v = nI 0 ∧ ∃ b, qo_share S x y z b u.1 ∧ u.2 0 = b.toInt64) ∨ (u.1 = S ∧ ∃ E, qx_share S x y z E ∧ ((E = kx_nse ∧ v = nI 1) ∨ (E = kx_ise ∧ v = nI 2)))) (lo_q G cJ o) (lo_A G o)) 2 12 (lo_A G o) := by
  refine va_MetW (cc := cL_share) (maxL := 6) (ret := (some .int)) (hh := [(0, 12, 15, 21), (0, 12, 19, 15)]) (by decide) rfl ?_
  intro p e s m args below meth c s₁ B hml hv
  obtain ⟨rfl, hv⟩ := hv
  have hx := B.exec
  have hb := B.bytes
  have hr := B.returns
  have hlk := B.notSynchronized
  have hts := atoms_spec (ws := wL_share) B.pre
  have hT : ∀ w ∈ nw_T, w.before _ s = true := fun w h => hts w (List.mem_cons_of_mem _ h)
  have htab : c.exceptionTable.toList = _ := vx_table (x := yL_share) B (hts _ List.mem_cons_self)
  have hown : s.vm.findClass RL = some m.cls := findClass_of_methodNamed B.named
  obtain ⟨hpx, hO, hK2, hno, hN⟩ := hv
  have hK : kc_K G s := hpx.1.2.2
  have hX := hpx.2
  have hC := kc_start hpx.1
  have hl := lv_entry ([.ref (kg_h G), .int x, .int y, .int z, .ref o]) (n := 6) (Nat.le_of_ble_eq_true rfl)
  rw [lg_entry_eq]
  generalize (lg_sl ([.ref (kg_h G), .int x, .int y, .int z, .ref o]) ++ List.replicate (6 - (lg_sl ([.ref (kg_h G), .int x, .int y, .int z, .ref o])).length) Slot.unset).toArray = ls at hl ⊢
  have hl : lv_has ls 6 [(0, .ref (kg_h G)), (1, .int x), (2, .int y), (3, .int z), (4, .ref o)] := hl
  refine lv_aload hx hb dL_share_0 (lv_at hl 4 rfl) ?_
  refine lv_iconst (v := (nI 0)) hx hb dL_share_2 (by decide +kernel) ?_
  refine lv_aload_n hx hb dL_share_3 rfl (lv_at hl 0 rfl) ?_
  refine lv_iload_n hx hb dL_share_4 rfl (lv_at hl 1 rfl) ?_
  refine lv_iload_n hx hb dL_share_5 rfl (lv_at hl 2 rfl) ?_
  refine lv_iload_n hx hb dL_share_6 rfl (lv_at hl 3 rfl) ?_
  refine kr_xi (As := [.int x, .int y, .int z]) (rest := [.int (nI 0), .ref o]) (post := qo_share S x y z) (pe := qx_share S x y z) ⟨hx, hb, hml, hown, hts⟩ (k0_share l hl0 G S x y z hP hV) (cwV 3 hts gL_17 rfl rfl rfl hX0_share ⟨Nat.le_of_ble_eq_true rfl, Nat.le_of_ble_eq_true rfl⟩) hK hX hC rfl hl.1 rfl (Nat.le_of_ble_eq_true rfl) dL_share_7 ⟨Nat.le_of_ble_eq_true rfl, Nat.le_of_ble_eq_true rfl⟩ (fun E ce q9 H locs hpe hC hce hcv hcl => ?_) (fun v S1 H locs hp hC => ?_)
  · have hO2 := lo_keep hO hno hC.2.2
    have hS2 := lo_S (o := o) hC.2.2
    have hq := hpe
    rcases hq with ⟨rfl, _⟩ | ⟨rfl, _⟩
    · refine vx_catch (own := RL) (name := kx_nse) hown [] ⟨0, 12, 15, 21⟩ [⟨0, 12, 19, 15⟩] (htab.trans rfl) (fun z hz => absurd hz List.not_mem_nil) (by decide +kernel) (by decide) (hT _ mw_207) (hX.2.2.use _ (by decide +kernel)) hce hcv hcl ?_
      refine lv_astore (lv' := [(5, .ref q9), (0, .ref (kg_h G)), (1, .int x), (2, .int y), (3, .int z), (4, .ref o)]) hx hb dL_share_15 hl (by decide) rfl (fun ls hl => ?_)
      refine lv_iconst (v := (nI 1)) hx hb dL_share_17 (by decide +kernel) ?_
      exact lo_ret hx hb hr hlk hC.1 hC.2.1 hO2 hS2 (Or.inr ⟨rfl, _, hpe, Or.inl ⟨rfl, rfl⟩⟩) dL_share_18 (Nat.le_of_ble_eq_true rfl) (Nat.le_of_ble_eq_true rfl)
    · refine vx_catch (own := RL) (name := kx_ise) hown [⟨0, 12, 15, 21⟩] ⟨0, 12, 19, 15⟩ [] (htab.trans rfl) (fun z hz => by rw [List.mem_singleton.mp hz]; exact Or.inr ⟨by decide, kx_nse, hT _ mw_207, hN.2.1⟩) (by decide +kernel) (by decide) (hT _ mw_112) (hX.2.2.use _ (by decide +kernel)) hce hcv hcl ?_
      refine lv_astore (lv' := [(5, .ref q9), (0, .ref (kg_h G)), (1, .int x), (2, .int y), (3, .int z), (4, .ref o)]) hx hb dL_share_19 hl (by decide) rfl (fun ls hl => ?_)
      refine lv_iconst (v := (nI 2)) hx hb dL_share_21 (by decide +kernel) ?_
      exact lo_ret hx hb hr hlk hC.1 hC.2.1 hO2 hS2 (Or.inr ⟨rfl, _, hpe, Or.inr ⟨rfl, rfl⟩⟩) dL_share_22 (Nat.le_of_ble_eq_true rfl) (Nat.le_of_ble_eq_true rfl)
  · have hO2 := lo_keep hO hno hC.2.2
    have hS2 := lo_S (o := o) hC.2.2
    refine lv_i2l (v := v.toInt64) hx hb dL_share_10 rfl ?_
    refine lo_st hx hb hK2 hO2 dL_share_11 (fun H3 f1 hf1 hO3 hz3 oq => ?_)
    refine lv_goto (tgt := 23) hx hb dL_share_12 rfl ?_
    refine lv_iconst (v := (nI 0)) hx hb dL_share_23 (by decide +kernel) ?_
    exact lo_ret hx hb hr hlk (lo_put hC.1 hC.2.1 hno oq) hC.2.1 hO3 (hS2.put hz3 oq (Or.inr rfl)) (Or.inl ⟨rfl, v, hp, hf1⟩) dL_share_24 (Nat.le_of_ble_eq_true rfl) (Nat.le_of_ble_eq_true rfl)
set_option maxHeartbeats 4000000 in
set_option maxRecDepth 100000 in
theorem kL_drop (l : Launch) (hl0 : l.stackTraces = false) (G : kg_T) (cJ : ClassId) (o : Nat) (S : ks_T) (f : Nat → Int64) (x : Int32) (hP : ∀ r, r < 40 → ks_P S r ≤ 33) (hV : kv_c S) : Met l yL_drop wL_drop ({ frames := 10, cells := 1, slots := 6, locals := 200 }) (va_Pc [.ref (kg_h G), .int x, .ref o] (lo_p G cJ o S f)) (va_Qi (fun (v : Int32) (u : ks_T × (Nat → Int64)) => (v = nI 0 ∧ ∃ b, qo_drop S x b u.1 ∧ u.2 0 = b.toInt64) ∨ (u.1 = S ∧ ∃ E, qx_drop S x E ∧ ((E = kx_nse ∧ v = nI 1)))) (lo_q G cJ o) (lo_A G o)) 1 6 (lo_A G o) := by
  refine va_MetW (cc := cL_drop) (maxL := 4) (ret := (some .int)) (hh := [(0, 9, 12, 21)]) (by decide) rfl ?_
  intro p e s m args below meth c s₁ B hml hv
  obtain ⟨rfl, hv⟩ := hv
  have hx := B.exec
  have hb := B.bytes
  have hr := B.returns
  have hlk := B.notSynchronized
  have hts := atoms_spec (ws := wL_drop) B.pre
  have hT : ∀ w ∈ nw_T, w.before _ s = true := fun w h => hts w (List.mem_cons_of_mem _ h)
  have htab : c.exceptionTable.toList = _ := vx_table (x := yL_drop) B (hts _ List.mem_cons_self)
  have hown : s.vm.findClass RL = some m.cls := findClass_of_methodNamed B.named
  obtain ⟨hpx, hO, hK2, hno, hN⟩ := hv
  have hK : kc_K G s := hpx.1.2.2
  have hX := hpx.2
  have hC := kc_start hpx.1
  have hl := lv_entry ([.ref (kg_h G), .int x, .ref o]) (n := 4) (Nat.le_of_ble_eq_true rfl)
  rw [lg_entry_eq]
  generalize (lg_sl ([.ref (kg_h G), .int x, .ref o]) ++ List.replicate (4 - (lg_sl ([.ref (kg_h G), .int x, .ref o])).length) Slot.unset).toArray = ls at hl ⊢
  have hl : lv_has ls 4 [(0, .ref (kg_h G)), (1, .int x), (2, .ref o)] := hl
  refine lv_aload_n hx hb dL_drop_0 rfl (lv_at hl 2 rfl) ?_
  refine lv_iconst (v := (nI 0)) hx hb dL_drop_1 (by decide +kernel) ?_
  refine lv_aload_n hx hb dL_drop_2 rfl (lv_at hl 0 rfl) ?_
  refine lv_iload_n hx hb dL_drop_3 rfl (lv_at hl 1 rfl) ?_
  refine kr_xi (As := [.int x]) (rest := [.int (nI 0), .ref o]) (post := qo_drop S x) (pe := qx_drop S x) ⟨hx, hb, hml, hown, hts⟩ (k0_drop l hl0 G S x hP hV) (cwV 1 hts gL_23 rfl rfl rfl hX0_drop ⟨Nat.le_of_ble_eq_true rfl, Nat.le_of_ble_eq_true rfl⟩) hK hX hC rfl hl.1 rfl (Nat.le_of_ble_eq_true rfl) dL_drop_4 ⟨Nat.le_of_ble_eq_true rfl, Nat.le_of_ble_eq_true rfl⟩ (fun E ce q9 H locs hpe hC hce hcv hcl => ?_) (fun v S1 H locs hp hC => ?_)
  · have hO2 := lo_keep hO hno hC.2.2
    have hS2 := lo_S (o := o) hC.2.2
    have hq := hpe
    rcases hq with ⟨rfl, _⟩
    · refine vx_catch (own := RL) (name := kx_nse) hown [] ⟨0, 9, 12, 21⟩ [] (htab.trans rfl) (fun z hz => absurd hz List.not_mem_nil) (by decide +kernel) (by decide) (hT _ mw_207) (hX.2.2.use _ (by decide +kernel)) hce hcv hcl ?_
      refine lv_astore_n (lv' := [(3, .ref q9), (0, .ref (kg_h G)), (1, .int x), (2, .ref o)]) hx hb dL_drop_12 rfl hl (by decide) rfl (fun ls hl => ?_)
      refine lv_iconst (v := (nI 1)) hx hb dL_drop_13 (by decide +kernel) ?_
      exact lo_ret hx hb hr hlk hC.1 hC.2.1 hO2 hS2 (Or.inr ⟨rfl, _, hpe, ⟨rfl, rfl⟩⟩) dL_drop_14 (Nat.le_of_ble_eq_true rfl) (Nat.le_of_ble_eq_true rfl)
  · have hO2 := lo_keep hO hno hC.2.2
    have hS2 := lo_S (o := o) hC.2.2
    refine lv_i2l (v := v.toInt64) hx hb dL_drop_7 rfl ?_
    refine lo_st hx hb hK2 hO2 dL_drop_8 (fun H3 f1 hf1 hO3 hz3 oq => ?_)
    refine lv_goto (tgt := 15) hx hb dL_drop_9 rfl ?_
    refine lv_iconst (v := (nI 0)) hx hb dL_drop_15 (by decide +kernel) ?_
    exact lo_ret hx hb hr hlk (lo_put hC.1 hC.2.1 hno oq) hC.2.1 hO3 (hS2.put hz3 oq (Or.inr rfl)) (Or.inl ⟨rfl, v, hp, hf1⟩) dL_drop_16 (Nat.le_of_ble_eq_true rfl) (Nat.le_of_ble_eq_true rfl)
set_option maxHeartbeats 4000000 in
set_option maxRecDepth 100000 in
theorem kL_write (l : Launch) (hl0 : l.stackTraces = false) (G : kg_T) (cJ : ClassId) (o : Nat) (S : ks_T) (f : Nat → Int64) (x y z v0 : Int32) (hP : ∀ r, r < 40 → ks_P S r ≤ 33) (hV : kv_c S) : Met l yL_write wL_write ({ frames := 10, cells := 3, slots := 18, locals := 200 }) (va_Pc [.ref (kg_h G), .int x, .int y, .int z, .int v0, .ref o] (lo_p G cJ o S f)) (va_Qi (fun (v : Int32) (u : ks_T × (Nat → Int64)) => (v = nI 0 ∧ ∃ b, qo_write S x y z v0 b u.1 ∧ u.2 0 = b.toInt64) ∨ (u.1 = S ∧ ∃ E, qx_write S x y z v0 E ∧ ((E = kx_nse ∧ v = nI 1) ∨ (E = kx_ae ∧ v = nI 2)))) (lo_q G cJ o) (lo_A G o)) 3 18 (lo_A G o) := by
  refine va_MetW (cc := cL_write) (maxL := 7) (ret := (some .int)) (hh := [(0, 14, 17, 21), (0, 14, 21, 30)]) (by decide) rfl ?_
  intro p e s m args below meth c s₁ B hml hv
  obtain ⟨rfl, hv⟩ := hv
  have hx := B.exec
  have hb := B.bytes
  have hr := B.returns
  have hlk := B.notSynchronized
  have hts := atoms_spec (ws := wL_write) B.pre
  have hT : ∀ w ∈ nw_T, w.before _ s = true := fun w h => hts w (List.mem_cons_of_mem _ h)
  have htab : c.exceptionTable.toList = _ := vx_table (x := yL_write) B (hts _ List.mem_cons_self)
  have hown : s.vm.findClass RL = some m.cls := findClass_of_methodNamed B.named
  obtain ⟨hpx, hO, hK2, hno, hN⟩ := hv
  have hK : kc_K G s := hpx.1.2.2
  have hX := hpx.2
  have hC := kc_start hpx.1
  have hl := lv_entry ([.ref (kg_h G), .int x, .int y, .int z, .int v0, .ref o]) (n := 7) (Nat.le_of_ble_eq_true rfl)
  rw [lg_entry_eq]
  generalize (lg_sl ([.ref (kg_h G), .int x, .int y, .int z, .int v0, .ref o]) ++ List.replicate (7 - (lg_sl ([.ref (kg_h G), .int x, .int y, .int z, .int v0, .ref o])).length) Slot.unset).toArray = ls at hl ⊢
  have hl : lv_has ls 7 [(0, .ref (kg_h G)), (1, .int x), (2, .int y), (3, .int z), (4, .int v0), (5, .ref o)] := hl
  refine lv_aload hx hb dL_write_0 (lv_at hl 5 rfl) ?_
  refine lv_iconst (v := (nI 0)) hx hb dL_write_2 (by decide +kernel) ?_
  refine lv_aload_n hx hb dL_write_3 rfl (lv_at hl 0 rfl) ?_
  refine lv_iload_n hx hb dL_write_4 rfl (lv_at hl 1 rfl) ?_
  refine lv_iload_n hx hb dL_write_5 rfl (lv_at hl 2 rfl) ?_
  refine lv_iload_n hx hb dL_write_6 rfl (lv_at hl 3 rfl) ?_
  refine lv_iload hx hb dL_write_7 (lv_at hl 4 rfl) ?_
  refine kr_xi (As := [.int x, .int y, .int z, .int v0]) (rest := [.int (nI 0), .ref o]) (post := qo_write S x y z v0) (pe := qx_write S x y z v0) ⟨hx, hb, hml, hown, hts⟩ (k0_write l hl0 G S x y z v0 hP hV) (cwV 4 hts gL_26 rfl rfl rfl hX0_write ⟨Nat.le_of_ble_eq_true rfl, Nat.le_of_ble_eq_true rfl⟩) hK hX hC rfl hl.1 rfl (Nat.le_of_ble_eq_true rfl) dL_write_9 ⟨Nat.le_of_ble_eq_true rfl, Nat.le_of_ble_eq_true rfl⟩ (fun E ce q9 H locs hpe hC hce hcv hcl => ?_) (fun v S1 H locs hp hC => ?_)
  · have hO2 := lo_keep hO hno hC.2.2
    have hS2 := lo_S (o := o) hC.2.2
    have hq := hpe
    rcases hq with ⟨rfl, _⟩ | ⟨rfl, _⟩
    · refine vx_catch (own := RL) (name := kx_nse) hown [] ⟨0, 14, 17, 21⟩ [⟨0, 14, 21, 30⟩] (htab.trans rfl) (fun z hz => absurd hz List.not_mem_nil) (by decide +kernel) (by decide) (hT _ mw_207) (hX.2.2.use _ (by decide +kernel)) hce hcv hcl ?_
      refine lv_astore (lv' := [(6, .ref q9), (0, .ref (kg_h G)), (1, .int x), (2, .int y), (3, .int z), (4, .int v0), (5, .ref o)]) hx hb dL_write_17 hl (by decide) rfl (fun ls hl => ?_)
      refine lv_iconst (v := (nI 1)) hx hb dL_write_19 (by decide +kernel) ?_
      exact lo_ret hx hb hr hlk hC.1 hC.2.1 hO2 hS2 (Or.inr ⟨rfl, _, hpe, Or.inl ⟨rfl, rfl⟩⟩) dL_write_20 (Nat.le_of_ble_eq_true rfl) (Nat.le_of_ble_eq_true rfl)
    · refine vx_catch (own := RL) (name := kx_ae) hown [⟨0, 14, 17, 21⟩] ⟨0, 14, 21, 30⟩ [] (htab.trans rfl) (fun z hz => by rw [List.mem_singleton.mp hz]; exact Or.inr ⟨by decide, kx_nse, hT _ mw_207, hN.2.2.1⟩) (by decide +kernel) (by decide) (hT _ mw_249) (hX.2.2.use _ (by decide +kernel)) hce hcv hcl ?_
      refine lv_astore (lv' := [(6, .ref q9), (0, .ref (kg_h G)), (1, .int x), (2, .int y), (3, .int z), (4, .int v0), (5, .ref o)]) hx hb dL_write_21 hl (by decide) rfl (fun ls hl => ?_)
      refine lv_iconst (v := (nI 2)) hx hb dL_write_23 (by decide +kernel) ?_
      exact lo_ret hx hb hr hlk hC.1 hC.2.1 hO2 hS2 (Or.inr ⟨rfl, _, hpe, Or.inr ⟨rfl, rfl⟩⟩) dL_write_24 (Nat.le_of_ble_eq_true rfl) (Nat.le_of_ble_eq_true rfl)
  · have hO2 := lo_keep hO hno hC.2.2
    have hS2 := lo_S (o := o) hC.2.2
    refine lv_i2l (v := v.toInt64) hx hb dL_write_12 rfl ?_
    refine lo_st hx hb hK2 hO2 dL_write_13 (fun H3 f1 hf1 hO3 hz3 oq => ?_)
    refine lv_goto (tgt := 25) hx hb dL_write_14 rfl ?_
    refine lv_iconst (v := (nI 0)) hx hb dL_write_25 (by decide +kernel) ?_
    exact lo_ret hx hb hr hlk (lo_put hC.1 hC.2.1 hno oq) hC.2.1 hO3 (hS2.put hz3 oq (Or.inr rfl)) (Or.inl ⟨rfl, v, hp, hf1⟩) dL_write_26 (Nat.le_of_ble_eq_true rfl) (Nat.le_of_ble_eq_true rfl)
set_option maxHeartbeats 4000000 in
set_option maxRecDepth 100000 in
theorem kL_read (l : Launch) (hl0 : l.stackTraces = false) (G : kg_T) (cJ : ClassId) (o : Nat) (S : ks_T) (f : Nat → Int64) (x y z : Int32) (hP : ∀ r, r < 40 → ks_P S r ≤ 33) (hV : kv_c S) : Met l yL_read wL_read ({ frames := 10, cells := 2, slots := 12, locals := 200 }) (va_Pc [.ref (kg_h G), .int x, .int y, .int z, .ref o] (lo_p G cJ o S f)) (va_Qi (fun (v : Int32) (u : ks_T × (Nat → Int64)) => (v = nI 0 ∧ ∃ b, qo_read S x y z b u.1 ∧ u.2 0 = b.toInt64) ∨ (u.1 = S ∧ ∃ E, qx_read S x y z E ∧ ((E = kx_nse ∧ v = nI 1)))) (lo_q G cJ o) (lo_A G o)) 2 12 (lo_A G o) := by
  refine va_MetW (cc := cL_read) (maxL := 6) (ret := (some .int)) (hh := [(0, 12, 15, 21)]) (by decide) rfl ?_
  intro p e s m args below meth c s₁ B hml hv
  obtain ⟨rfl, hv⟩ := hv
  have hx := B.exec
  have hb := B.bytes
  have hr := B.returns
  have hlk := B.notSynchronized
  have hts := atoms_spec (ws := wL_read) B.pre
  have hT : ∀ w ∈ nw_T, w.before _ s = true := fun w h => hts w (List.mem_cons_of_mem _ h)
  have htab : c.exceptionTable.toList = _ := vx_table (x := yL_read) B (hts _ List.mem_cons_self)
  have hown : s.vm.findClass RL = some m.cls := findClass_of_methodNamed B.named
  obtain ⟨hpx, hO, hK2, hno, hN⟩ := hv
  have hK : kc_K G s := hpx.1.2.2
  have hX := hpx.2
  have hC := kc_start hpx.1
  have hl := lv_entry ([.ref (kg_h G), .int x, .int y, .int z, .ref o]) (n := 6) (Nat.le_of_ble_eq_true rfl)
  rw [lg_entry_eq]
  generalize (lg_sl ([.ref (kg_h G), .int x, .int y, .int z, .ref o]) ++ List.replicate (6 - (lg_sl ([.ref (kg_h G), .int x, .int y, .int z, .ref o])).length) Slot.unset).toArray = ls at hl ⊢
  have hl : lv_has ls 6 [(0, .ref (kg_h G)), (1, .int x), (2, .int y), (3, .int z), (4, .ref o)] := hl
  refine lv_aload hx hb dL_read_0 (lv_at hl 4 rfl) ?_
  refine lv_iconst (v := (nI 0)) hx hb dL_read_2 (by decide +kernel) ?_
  refine lv_aload_n hx hb dL_read_3 rfl (lv_at hl 0 rfl) ?_
  refine lv_iload_n hx hb dL_read_4 rfl (lv_at hl 1 rfl) ?_
  refine lv_iload_n hx hb dL_read_5 rfl (lv_at hl 2 rfl) ?_
  refine lv_iload_n hx hb dL_read_6 rfl (lv_at hl 3 rfl) ?_
  refine kr_xi (As := [.int x, .int y, .int z]) (rest := [.int (nI 0), .ref o]) (post := qo_read S x y z) (pe := qx_read S x y z) ⟨hx, hb, hml, hown, hts⟩ (k0_read l hl0 G S x y z hP hV) (cwV 3 hts gL_32 rfl rfl rfl hX0_read ⟨Nat.le_of_ble_eq_true rfl, Nat.le_of_ble_eq_true rfl⟩) hK hX hC rfl hl.1 rfl (Nat.le_of_ble_eq_true rfl) dL_read_7 ⟨Nat.le_of_ble_eq_true rfl, Nat.le_of_ble_eq_true rfl⟩ (fun E ce q9 H locs hpe hC hce hcv hcl => ?_) (fun v S1 H locs hp hC => ?_)
  · have hO2 := lo_keep hO hno hC.2.2
    have hS2 := lo_S (o := o) hC.2.2
    have hq := hpe
    rcases hq with ⟨rfl, _⟩
    · refine vx_catch (own := RL) (name := kx_nse) hown [] ⟨0, 12, 15, 21⟩ [] (htab.trans rfl) (fun z hz => absurd hz List.not_mem_nil) (by decide +kernel) (by decide) (hT _ mw_207) (hX.2.2.use _ (by decide +kernel)) hce hcv hcl ?_
      refine lv_astore (lv' := [(5, .ref q9), (0, .ref (kg_h G)), (1, .int x), (2, .int y), (3, .int z), (4, .ref o)]) hx hb dL_read_15 hl (by decide) rfl (fun ls hl => ?_)
      refine lv_iconst (v := (nI 1)) hx hb dL_read_17 (by decide +kernel) ?_
      exact lo_ret hx hb hr hlk hC.1 hC.2.1 hO2 hS2 (Or.inr ⟨rfl, _, hpe, ⟨rfl, rfl⟩⟩) dL_read_18 (Nat.le_of_ble_eq_true rfl) (Nat.le_of_ble_eq_true rfl)
  · have hO2 := lo_keep hO hno hC.2.2
    have hS2 := lo_S (o := o) hC.2.2
    refine lv_i2l (v := v.toInt64) hx hb dL_read_10 rfl ?_
    refine lo_st hx hb hK2 hO2 dL_read_11 (fun H3 f1 hf1 hO3 hz3 oq => ?_)
    refine lv_goto (tgt := 19) hx hb dL_read_12 rfl ?_
    refine lv_iconst (v := (nI 0)) hx hb dL_read_19 (by decide +kernel) ?_
    exact lo_ret hx hb hr hlk (lo_put hC.1 hC.2.1 hno oq) hC.2.1 hO3 (hS2.put hz3 oq (Or.inr rfl)) (Or.inl ⟨rfl, v, hp, hf1⟩) dL_read_20 (Nat.le_of_ble_eq_true rfl) (Nat.le_of_ble_eq_true rfl)
set_option maxHeartbeats 4000000 in
set_option maxRecDepth 100000 in
theorem kL_lay (l : Launch) (hl0 : l.stackTraces = false) (G : kg_T) (cJ : ClassId) (o : Nat) (S : ks_T) (f : Nat → Int64) (x y x2 y2 z : Int32) (hP : ∀ r, r < 40 → ks_P S r ≤ 33) (hV : kv_c S) : Met l yL_lay wL_lay ({ frames := 10, cells := 2, slots := 12, locals := 200 }) (va_Pc [.ref (kg_h G), .int x, .int y, .int x2, .int y2, .int z, .ref o] (lo_p G cJ o S f)) (va_Qi (fun (v : Int32) (u : ks_T × (Nat → Int64)) => (v = nI 0 ∧ ∃ b, qo_lay S x y x2 y2 z b u.1 ∧ u.2 0 = b.toInt64) ∨ (u.1 = S ∧ ∃ E, qx_lay S x y x2 y2 z E ∧ ((E = kx_nse ∧ v = nI 1)))) (lo_q G cJ o) (lo_A G o)) 2 12 (lo_A G o) := by
  refine va_MetW (cc := cL_lay) (maxL := 8) (ret := (some .int)) (hh := [(0, 16, 19, 21)]) (by decide) rfl ?_
  intro p e s m args below meth c s₁ B hml hv
  obtain ⟨rfl, hv⟩ := hv
  have hx := B.exec
  have hb := B.bytes
  have hr := B.returns
  have hlk := B.notSynchronized
  have hts := atoms_spec (ws := wL_lay) B.pre
  have hT : ∀ w ∈ nw_T, w.before _ s = true := fun w h => hts w (List.mem_cons_of_mem _ h)
  have htab : c.exceptionTable.toList = _ := vx_table (x := yL_lay) B (hts _ List.mem_cons_self)
  have hown : s.vm.findClass RL = some m.cls := findClass_of_methodNamed B.named
  obtain ⟨hpx, hO, hK2, hno, hN⟩ := hv
  have hK : kc_K G s := hpx.1.2.2
  have hX := hpx.2
  have hC := kc_start hpx.1
  have hl := lv_entry ([.ref (kg_h G), .int x, .int y, .int x2, .int y2, .int z, .ref o]) (n := 8) (Nat.le_of_ble_eq_true rfl)
  rw [lg_entry_eq]
  generalize (lg_sl ([.ref (kg_h G), .int x, .int y, .int x2, .int y2, .int z, .ref o]) ++ List.replicate (8 - (lg_sl ([.ref (kg_h G), .int x, .int y, .int x2, .int y2, .int z, .ref o])).length) Slot.unset).toArray = ls at hl ⊢
  have hl : lv_has ls 8 [(0, .ref (kg_h G)), (1, .int x), (2, .int y), (3, .int x2), (4, .int y2), (5, .int z), (6, .ref o)] := hl
  refine lv_aload hx hb dL_lay_0 (lv_at hl 6 rfl) ?_
  refine lv_iconst (v := (nI 0)) hx hb dL_lay_2 (by decide +kernel) ?_
  refine lv_aload_n hx hb dL_lay_3 rfl (lv_at hl 0 rfl) ?_
  refine lv_iload_n hx hb dL_lay_4 rfl (lv_at hl 1 rfl) ?_
  refine lv_iload_n hx hb dL_lay_5 rfl (lv_at hl 2 rfl) ?_
  refine lv_iload_n hx hb dL_lay_6 rfl (lv_at hl 3 rfl) ?_
  refine lv_iload hx hb dL_lay_7 (lv_at hl 4 rfl) ?_
  refine lv_iload hx hb dL_lay_9 (lv_at hl 5 rfl) ?_
  refine kr_xi (As := [.int x, .int y, .int x2, .int y2, .int z]) (rest := [.int (nI 0), .ref o]) (post := qo_lay S x y x2 y2 z) (pe := qx_lay S x y x2 y2 z) ⟨hx, hb, hml, hown, hts⟩ (k0_lay l hl0 G S x y x2 y2 z hP hV) (cwV 5 hts gL_35 rfl rfl rfl hX0_lay ⟨Nat.le_of_ble_eq_true rfl, Nat.le_of_ble_eq_true rfl⟩) hK hX hC rfl hl.1 rfl (Nat.le_of_ble_eq_true rfl) dL_lay_11 ⟨Nat.le_of_ble_eq_true rfl, Nat.le_of_ble_eq_true rfl⟩ (fun E ce q9 H locs hpe hC hce hcv hcl => ?_) (fun v S1 H locs hp hC => ?_)
  · have hO2 := lo_keep hO hno hC.2.2
    have hS2 := lo_S (o := o) hC.2.2
    have hq := hpe
    rcases hq with ⟨rfl, _⟩
    · refine vx_catch (own := RL) (name := kx_nse) hown [] ⟨0, 16, 19, 21⟩ [] (htab.trans rfl) (fun z hz => absurd hz List.not_mem_nil) (by decide +kernel) (by decide) (hT _ mw_207) (hX.2.2.use _ (by decide +kernel)) hce hcv hcl ?_
      refine lv_astore (lv' := [(7, .ref q9), (0, .ref (kg_h G)), (1, .int x), (2, .int y), (3, .int x2), (4, .int y2), (5, .int z), (6, .ref o)]) hx hb dL_lay_19 hl (by decide) rfl (fun ls hl => ?_)
      refine lv_iconst (v := (nI 1)) hx hb dL_lay_21 (by decide +kernel) ?_
      exact lo_ret hx hb hr hlk hC.1 hC.2.1 hO2 hS2 (Or.inr ⟨rfl, _, hpe, ⟨rfl, rfl⟩⟩) dL_lay_22 (Nat.le_of_ble_eq_true rfl) (Nat.le_of_ble_eq_true rfl)
  · have hO2 := lo_keep hO hno hC.2.2
    have hS2 := lo_S (o := o) hC.2.2
    refine lv_i2l (v := v.toInt64) hx hb dL_lay_14 rfl ?_
    refine lo_st hx hb hK2 hO2 dL_lay_15 (fun H3 f1 hf1 hO3 hz3 oq => ?_)
    refine lv_goto (tgt := 23) hx hb dL_lay_16 rfl ?_
    refine lv_iconst (v := (nI 0)) hx hb dL_lay_23 (by decide +kernel) ?_
    exact lo_ret hx hb hr hlk (lo_put hC.1 hC.2.1 hno oq) hC.2.1 hO3 (hS2.put hz3 oq (Or.inr rfl)) (Or.inl ⟨rfl, v, hp, hf1⟩) dL_lay_24 (Nat.le_of_ble_eq_true rfl) (Nat.le_of_ble_eq_true rfl)
set_option maxHeartbeats 4000000 in
set_option maxRecDepth 100000 in
theorem kL_size (l : Launch) (hl0 : l.stackTraces = false) (G : kg_T) (cJ : ClassId) (o : Nat) (S : ks_T) (f : Nat → Int64) (x y : Int32) (hP : ∀ r, r < 40 → ks_P S r ≤ 33) (hV : kv_c S) : Met l yL_size wL_size ({ frames := 10, cells := 2, slots := 12, locals := 200 }) (va_Pc [.ref (kg_h G), .int x, .int y, .ref o] (lo_p G cJ o S f)) (va_Qi (fun (v : Int32) (u : ks_T × (Nat → Int64)) => (v = nI 0 ∧ ∃ b, qo_size S x y b u.1 ∧ u.2 0 = b.toInt64) ∨ (u.1 = S ∧ ∃ E, qx_size S x y E ∧ ((E = kx_nse ∧ v = nI 1) ∨ (E = kx_iae ∧ v = nI 2)))) (lo_q G cJ o) (lo_A G o)) 2 12 (lo_A G o) := by
  refine va_MetW (cc := cL_size) (maxL := 5) (ret := (some .int)) (hh := [(0, 10, 13, 21), (0, 10, 17, 13)]) (by decide) rfl ?_
  intro p e s m args below meth c s₁ B hml hv
  obtain ⟨rfl, hv⟩ := hv
  have hx := B.exec
  have hb := B.bytes
  have hr := B.returns
  have hlk := B.notSynchronized
  have hts := atoms_spec (ws := wL_size) B.pre
  have hT : ∀ w ∈ nw_T, w.before _ s = true := fun w h => hts w (List.mem_cons_of_mem _ h)
  have htab : c.exceptionTable.toList = _ := vx_table (x := yL_size) B (hts _ List.mem_cons_self)
  have hown : s.vm.findClass RL = some m.cls := findClass_of_methodNamed B.named
  obtain ⟨hpx, hO, hK2, hno, hN⟩ := hv
  have hK : kc_K G s := hpx.1.2.2
  have hX := hpx.2
  have hC := kc_start hpx.1
  have hl := lv_entry ([.ref (kg_h G), .int x, .int y, .ref o]) (n := 5) (Nat.le_of_ble_eq_true rfl)
  rw [lg_entry_eq]
  generalize (lg_sl ([.ref (kg_h G), .int x, .int y, .ref o]) ++ List.replicate (5 - (lg_sl ([.ref (kg_h G), .int x, .int y, .ref o])).length) Slot.unset).toArray = ls at hl ⊢
  have hl : lv_has ls 5 [(0, .ref (kg_h G)), (1, .int x), (2, .int y), (3, .ref o)] := hl
  refine lv_aload_n hx hb dL_size_0 rfl (lv_at hl 3 rfl) ?_
  refine lv_iconst (v := (nI 0)) hx hb dL_size_1 (by decide +kernel) ?_
  refine lv_aload_n hx hb dL_size_2 rfl (lv_at hl 0 rfl) ?_
  refine lv_iload_n hx hb dL_size_3 rfl (lv_at hl 1 rfl) ?_
  refine lv_iload_n hx hb dL_size_4 rfl (lv_at hl 2 rfl) ?_
  refine kr_xi (As := [.int x, .int y]) (rest := [.int (nI 0), .ref o]) (post := qo_size S x y) (pe := qx_size S x y) ⟨hx, hb, hml, hown, hts⟩ (k0_size l hl0 G S x y hP hV) (cwV 2 hts gL_39 rfl rfl rfl hX0_size ⟨Nat.le_of_ble_eq_true rfl, Nat.le_of_ble_eq_true rfl⟩) hK hX hC rfl hl.1 rfl (Nat.le_of_ble_eq_true rfl) dL_size_5 ⟨Nat.le_of_ble_eq_true rfl, Nat.le_of_ble_eq_true rfl⟩ (fun E ce q9 H locs hpe hC hce hcv hcl => ?_) (fun v S1 H locs hp hC => ?_)
  · have hO2 := lo_keep hO hno hC.2.2
    have hS2 := lo_S (o := o) hC.2.2
    have hq := hpe
    rcases hq with ⟨rfl, _⟩ | ⟨rfl, _⟩
    · refine vx_catch (own := RL) (name := kx_nse) hown [] ⟨0, 10, 13, 21⟩ [⟨0, 10, 17, 13⟩] (htab.trans rfl) (fun z hz => absurd hz List.not_mem_nil) (by decide +kernel) (by decide) (hT _ mw_207) (hX.2.2.use _ (by decide +kernel)) hce hcv hcl ?_
      refine lv_astore (lv' := [(4, .ref q9), (0, .ref (kg_h G)), (1, .int x), (2, .int y), (3, .ref o)]) hx hb dL_size_13 hl (by decide) rfl (fun ls hl => ?_)
      refine lv_iconst (v := (nI 1)) hx hb dL_size_15 (by decide +kernel) ?_
      exact lo_ret hx hb hr hlk hC.1 hC.2.1 hO2 hS2 (Or.inr ⟨rfl, _, hpe, Or.inl ⟨rfl, rfl⟩⟩) dL_size_16 (Nat.le_of_ble_eq_true rfl) (Nat.le_of_ble_eq_true rfl)
    · refine vx_catch (own := RL) (name := kx_iae) hown [⟨0, 10, 13, 21⟩] ⟨0, 10, 17, 13⟩ [] (htab.trans rfl) (fun z hz => by rw [List.mem_singleton.mp hz]; exact Or.inr ⟨by decide, kx_nse, hT _ mw_207, hN.2.2.2⟩) (by decide +kernel) (by decide) (hT _ mw_111) (hX.2.2.use _ (by decide +kernel)) hce hcv hcl ?_
      refine lv_astore (lv' := [(4, .ref q9), (0, .ref (kg_h G)), (1, .int x), (2, .int y), (3, .ref o)]) hx hb dL_size_17 hl (by decide) rfl (fun ls hl => ?_)
      refine lv_iconst (v := (nI 2)) hx hb dL_size_19 (by decide +kernel) ?_
      exact lo_ret hx hb hr hlk hC.1 hC.2.1 hO2 hS2 (Or.inr ⟨rfl, _, hpe, Or.inr ⟨rfl, rfl⟩⟩) dL_size_20 (Nat.le_of_ble_eq_true rfl) (Nat.le_of_ble_eq_true rfl)
  · have hO2 := lo_keep hO hno hC.2.2
    have hS2 := lo_S (o := o) hC.2.2
    refine lv_i2l (v := v.toInt64) hx hb dL_size_8 rfl ?_
    refine lo_st hx hb hK2 hO2 dL_size_9 (fun H3 f1 hf1 hO3 hz3 oq => ?_)
    refine lv_goto (tgt := 21) hx hb dL_size_10 rfl ?_
    refine lv_iconst (v := (nI 0)) hx hb dL_size_21 (by decide +kernel) ?_
    exact lo_ret hx hb hr hlk (lo_put hC.1 hC.2.1 hno oq) hC.2.1 hO3 (hS2.put hz3 oq (Or.inr rfl)) (Or.inl ⟨rfl, v, hp, hf1⟩) dL_size_22 (Nat.le_of_ble_eq_true rfl) (Nat.le_of_ble_eq_true rfl)
set_option maxHeartbeats 4000000 in
set_option maxRecDepth 100000 in
theorem kL_blank (l : Launch) (hl0 : l.stackTraces = false) (G : kg_T) (cJ : ClassId) (o : Nat) (S : ks_T) (f : Nat → Int64) (x y : Int32) (hP : ∀ r, r < 40 → ks_P S r ≤ 33) (hV : kv_c S) : Met l yL_blank wL_blank ({ frames := 10, cells := 1, slots := 6, locals := 200 }) (va_Pc [.ref (kg_h G), .int x, .int y, .ref o] (lo_p G cJ o S f)) (va_Qi (fun (v : Int32) (u : ks_T × (Nat → Int64)) => (v = nI 0 ∧ ∃ b, qo_blank S x y b u.1 ∧ u.2 0 = (if b = 0 then 0 else 1)) ∨ (u.1 = S ∧ ∃ E, qx_blank S x y E ∧ ((E = kx_nse ∧ v = nI 1)))) (lo_q G cJ o) (lo_A G o)) 1 6 (lo_A G o) := by
  refine va_MetW (cc := cL_blank) (maxL := 5) (ret := (some .int)) (hh := [(0, 17, 20, 21)]) (by decide) rfl ?_
  intro p e s m args below meth c s₁ B hml hv
  obtain ⟨rfl, hv⟩ := hv
  have hx := B.exec
  have hb := B.bytes
  have hr := B.returns
  have hlk := B.notSynchronized
  have hts := atoms_spec (ws := wL_blank) B.pre
  have hT : ∀ w ∈ nw_T, w.before _ s = true := fun w h => hts w (List.mem_cons_of_mem _ h)
  have htab : c.exceptionTable.toList = _ := vx_table (x := yL_blank) B (hts _ List.mem_cons_self)
  have hown : s.vm.findClass RL = some m.cls := findClass_of_methodNamed B.named
  obtain ⟨hpx, hO, hK2, hno, hN⟩ := hv
  have hK : kc_K G s := hpx.1.2.2
  have hX := hpx.2
  have hC := kc_start hpx.1
  have hl := lv_entry ([.ref (kg_h G), .int x, .int y, .ref o]) (n := 5) (Nat.le_of_ble_eq_true rfl)
  rw [lg_entry_eq]
  generalize (lg_sl ([.ref (kg_h G), .int x, .int y, .ref o]) ++ List.replicate (5 - (lg_sl ([.ref (kg_h G), .int x, .int y, .ref o])).length) Slot.unset).toArray = ls at hl ⊢
  have hl : lv_has ls 5 [(0, .ref (kg_h G)), (1, .int x), (2, .int y), (3, .ref o)] := hl
  refine lv_aload_n hx hb dL_blank_0 rfl (lv_at hl 3 rfl) ?_
  refine lv_iconst (v := (nI 0)) hx hb dL_blank_1 (by decide +kernel) ?_
  refine lv_aload_n hx hb dL_blank_2 rfl (lv_at hl 0 rfl) ?_
  refine lv_iload_n hx hb dL_blank_3 rfl (lv_at hl 1 rfl) ?_
  refine lv_iload_n hx hb dL_blank_4 rfl (lv_at hl 2 rfl) ?_
  refine kr_xi (As := [.int x, .int y]) (rest := [.int (nI 0), .ref o]) (post := qo_blank S x y) (pe := qx_blank S x y) ⟨hx, hb, hml, hown, hts⟩ (k0_blank l hl0 G S x y hP hV) (cwV 2 hts gL_43 rfl rfl rfl hX0_blank ⟨Nat.le_of_ble_eq_true rfl, Nat.le_of_ble_eq_true rfl⟩) hK hX hC rfl hl.1 rfl (Nat.le_of_ble_eq_true rfl) dL_blank_5 ⟨Nat.le_of_ble_eq_true rfl, Nat.le_of_ble_eq_true rfl⟩ (fun E ce q9 H locs hpe hC hce hcv hcl => ?_) (fun v S1 H locs hp hC => ?_)
  · have hO2 := lo_keep hO hno hC.2.2
    have hS2 := lo_S (o := o) hC.2.2
    have hq := hpe
    rcases hq with ⟨rfl, _⟩
    · refine vx_catch (own := RL) (name := kx_nse) hown [] ⟨0, 17, 20, 21⟩ [] (htab.trans rfl) (fun z hz => absurd hz List.not_mem_nil) (by decide +kernel) (by decide) (hT _ mw_207) (hX.2.2.use _ (by decide +kernel)) hce hcv hcl ?_
      refine lv_astore (lv' := [(4, .ref q9), (0, .ref (kg_h G)), (1, .int x), (2, .int y), (3, .ref o)]) hx hb dL_blank_20 hl (by decide) rfl (fun ls hl => ?_)
      refine lv_iconst (v := (nI 1)) hx hb dL_blank_22 (by decide +kernel) ?_
      exact lo_ret hx hb hr hlk hC.1 hC.2.1 hO2 hS2 (Or.inr ⟨rfl, _, hpe, ⟨rfl, rfl⟩⟩) dL_blank_23 (Nat.le_of_ble_eq_true rfl) (Nat.le_of_ble_eq_true rfl)
  · have hO2 := lo_keep hO hno hC.2.2
    have hS2 := lo_S (o := o) hC.2.2
    refine lv_if_eq (tgt := 15) hx hb dL_blank_8 rfl (fun h3 => ?_) (fun h3 => ?_)
    · refine lv_lconst (v := 0) hx hb dL_blank_15 rfl ?_
      refine lo_st hx hb hK2 hO2 dL_blank_16 (fun H3 f1 hf1 hO3 hz3 oq => ?_)
      refine lv_goto (tgt := 24) hx hb dL_blank_17 rfl ?_
      refine lv_iconst (v := (nI 0)) hx hb dL_blank_24 (by decide +kernel) ?_
      exact lo_ret hx hb hr hlk (lo_put hC.1 hC.2.1 hno oq) hC.2.1 hO3 (hS2.put hz3 oq (Or.inr rfl)) (Or.inl ⟨rfl, v, hp, hf1.trans (if_pos h3).symm⟩) dL_blank_25 (Nat.le_of_ble_eq_true rfl) (Nat.le_of_ble_eq_true rfl)
    · refine lv_lconst (v := 1) hx hb dL_blank_11 rfl ?_
      refine lv_goto (tgt := 16) hx hb dL_blank_12 rfl ?_
      refine lo_st hx hb hK2 hO2 dL_blank_16 (fun H3 f1 hf1 hO3 hz3 oq => ?_)
      refine lv_goto (tgt := 24) hx hb dL_blank_17 rfl ?_
      refine lv_iconst (v := (nI 0)) hx hb dL_blank_24 (by decide +kernel) ?_
      exact lo_ret hx hb hr hlk (lo_put hC.1 hC.2.1 hno oq) hC.2.1 hO3 (hS2.put hz3 oq (Or.inr rfl)) (Or.inl ⟨rfl, v, hp, hf1.trans (if_neg h3).symm⟩) dL_blank_25 (Nat.le_of_ble_eq_true rfl) (Nat.le_of_ble_eq_true rfl)
set_option maxHeartbeats 4000000 in
set_option maxRecDepth 100000 in
theorem kL_own (l : Launch) (hl0 : l.stackTraces = false) (G : kg_T) (cJ : ClassId) (o : Nat) (S : ks_T) (f : Nat → Int64) (x y : Int32) (hP : ∀ r, r < 40 → ks_P S r ≤ 33) (hV : kv_c S) : Met l yL_own wL_own ({ frames := 10, cells := 2, slots := 12, locals := 200 }) (va_Pc [.ref (kg_h G), .int x, .int y, .ref o] (lo_p G cJ o S f)) (va_Qi (fun (v : Int32) (u : ks_T × (Nat → Int64)) => (v = nI 0 ∧ ∃ b, qo_own S x y b u.1 ∧ u.2 0 = (if b = 0 then 0 else 1)) ∨ (u.1 = S ∧ ∃ E, qx_own S x y E ∧ ((E = kx_nse ∧ v = nI 1) ∨ (E = kx_ae ∧ v = nI 2)))) (lo_q G cJ o) (lo_A G o)) 2 12 (lo_A G o) := by
  refine va_MetW (cc := cL_own) (maxL := 5) (ret := (some .int)) (hh := [(0, 17, 20, 21), (0, 17, 24, 30)]) (by decide) rfl ?_
  intro p e s m args below meth c s₁ B hml hv
  obtain ⟨rfl, hv⟩ := hv
  have hx := B.exec
  have hb := B.bytes
  have hr := B.returns
  have hlk := B.notSynchronized
  have hts := atoms_spec (ws := wL_own) B.pre
  have hT : ∀ w ∈ nw_T, w.before _ s = true := fun w h => hts w (List.mem_cons_of_mem _ h)
  have htab : c.exceptionTable.toList = _ := vx_table (x := yL_own) B (hts _ List.mem_cons_self)
  have hown : s.vm.findClass RL = some m.cls := findClass_of_methodNamed B.named
  obtain ⟨hpx, hO, hK2, hno, hN⟩ := hv
  have hK : kc_K G s := hpx.1.2.2
  have hX := hpx.2
  have hC := kc_start hpx.1
  have hl := lv_entry ([.ref (kg_h G), .int x, .int y, .ref o]) (n := 5) (Nat.le_of_ble_eq_true rfl)
  rw [lg_entry_eq]
  generalize (lg_sl ([.ref (kg_h G), .int x, .int y, .ref o]) ++ List.replicate (5 - (lg_sl ([.ref (kg_h G), .int x, .int y, .ref o])).length) Slot.unset).toArray = ls at hl ⊢
  have hl : lv_has ls 5 [(0, .ref (kg_h G)), (1, .int x), (2, .int y), (3, .ref o)] := hl
  refine lv_aload_n hx hb dL_own_0 rfl (lv_at hl 3 rfl) ?_
  refine lv_iconst (v := (nI 0)) hx hb dL_own_1 (by decide +kernel) ?_
  refine lv_aload_n hx hb dL_own_2 rfl (lv_at hl 0 rfl) ?_
  refine lv_iload_n hx hb dL_own_3 rfl (lv_at hl 1 rfl) ?_
  refine lv_iload_n hx hb dL_own_4 rfl (lv_at hl 2 rfl) ?_
  refine kr_xi (As := [.int x, .int y]) (rest := [.int (nI 0), .ref o]) (post := qo_own S x y) (pe := qx_own S x y) ⟨hx, hb, hml, hown, hts⟩ (k0_own l hl0 G S x y hP hV) (cwV 2 hts gL_47 rfl rfl rfl hX0_own ⟨Nat.le_of_ble_eq_true rfl, Nat.le_of_ble_eq_true rfl⟩) hK hX hC rfl hl.1 rfl (Nat.le_of_ble_eq_true rfl) dL_own_5 ⟨Nat.le_of_ble_eq_true rfl, Nat.le_of_ble_eq_true rfl⟩ (fun E ce q9 H locs hpe hC hce hcv hcl => ?_) (fun v S1 H locs hp hC => ?_)
  · have hO2 := lo_keep hO hno hC.2.2
    have hS2 := lo_S (o := o) hC.2.2
    have hq := hpe
    rcases hq with ⟨rfl, _⟩ | ⟨rfl, _⟩
    · refine vx_catch (own := RL) (name := kx_nse) hown [] ⟨0, 17, 20, 21⟩ [⟨0, 17, 24, 30⟩] (htab.trans rfl) (fun z hz => absurd hz List.not_mem_nil) (by decide +kernel) (by decide) (hT _ mw_207) (hX.2.2.use _ (by decide +kernel)) hce hcv hcl ?_
      refine lv_astore (lv' := [(4, .ref q9), (0, .ref (kg_h G)), (1, .int x), (2, .int y), (3, .ref o)]) hx hb dL_own_20 hl (by decide) rfl (fun ls hl => ?_)
      refine lv_iconst (v := (nI 1)) hx hb dL_own_22 (by decide +kernel) ?_
      exact lo_ret hx hb hr hlk hC.1 hC.2.1 hO2 hS2 (Or.inr ⟨rfl, _, hpe, Or.inl ⟨rfl, rfl⟩⟩) dL_own_23 (Nat.le_of_ble_eq_true rfl) (Nat.le_of_ble_eq_true rfl)
    · refine vx_catch (own := RL) (name := kx_ae) hown [⟨0, 17, 20, 21⟩] ⟨0, 17, 24, 30⟩ [] (htab.trans rfl) (fun z hz => by rw [List.mem_singleton.mp hz]; exact Or.inr ⟨by decide, kx_nse, hT _ mw_207, hN.2.2.1⟩) (by decide +kernel) (by decide) (hT _ mw_249) (hX.2.2.use _ (by decide +kernel)) hce hcv hcl ?_
      refine lv_astore (lv' := [(4, .ref q9), (0, .ref (kg_h G)), (1, .int x), (2, .int y), (3, .ref o)]) hx hb dL_own_24 hl (by decide) rfl (fun ls hl => ?_)
      refine lv_iconst (v := (nI 2)) hx hb dL_own_26 (by decide +kernel) ?_
      exact lo_ret hx hb hr hlk hC.1 hC.2.1 hO2 hS2 (Or.inr ⟨rfl, _, hpe, Or.inr ⟨rfl, rfl⟩⟩) dL_own_27 (Nat.le_of_ble_eq_true rfl) (Nat.le_of_ble_eq_true rfl)
  · have hO2 := lo_keep hO hno hC.2.2
    have hS2 := lo_S (o := o) hC.2.2
    refine lv_if_eq (tgt := 15) hx hb dL_own_8 rfl (fun h3 => ?_) (fun h3 => ?_)
    · refine lv_lconst (v := 0) hx hb dL_own_15 rfl ?_
      refine lo_st hx hb hK2 hO2 dL_own_16 (fun H3 f1 hf1 hO3 hz3 oq => ?_)
      refine lv_goto (tgt := 28) hx hb dL_own_17 rfl ?_
      refine lv_iconst (v := (nI 0)) hx hb dL_own_28 (by decide +kernel) ?_
      exact lo_ret hx hb hr hlk (lo_put hC.1 hC.2.1 hno oq) hC.2.1 hO3 (hS2.put hz3 oq (Or.inr rfl)) (Or.inl ⟨rfl, v, hp, hf1.trans (if_pos h3).symm⟩) dL_own_29 (Nat.le_of_ble_eq_true rfl) (Nat.le_of_ble_eq_true rfl)
    · refine lv_lconst (v := 1) hx hb dL_own_11 rfl ?_
      refine lv_goto (tgt := 16) hx hb dL_own_12 rfl ?_
      refine lo_st hx hb hK2 hO2 dL_own_16 (fun H3 f1 hf1 hO3 hz3 oq => ?_)
      refine lv_goto (tgt := 28) hx hb dL_own_17 rfl ?_
      refine lv_iconst (v := (nI 0)) hx hb dL_own_28 (by decide +kernel) ?_
      exact lo_ret hx hb hr hlk (lo_put hC.1 hC.2.1 hno oq) hC.2.1 hO3 (hS2.put hz3 oq (Or.inr rfl)) (Or.inl ⟨rfl, v, hp, hf1.trans (if_neg h3).symm⟩) dL_own_29 (Nat.le_of_ble_eq_true rfl) (Nat.le_of_ble_eq_true rfl)
set_option maxHeartbeats 4000000 in
set_option maxRecDepth 100000 in
theorem kL_common (l : Launch) (hl0 : l.stackTraces = false) (G : kg_T) (cJ : ClassId) (o : Nat) (S : ks_T) (f : Nat → Int64) (x y x2 y2 : Int32) (hP : ∀ r, r < 40 → ks_P S r ≤ 33) (hV : kv_c S) : Met l yL_common wL_common ({ frames := 10, cells := 2, slots := 12, locals := 200 }) (va_Pc [.ref (kg_h G), .int x, .int y, .int x2, .int y2, .ref o] (lo_p G cJ o S f)) (va_Qi (fun (v : Int32) (u : ks_T × (Nat → Int64)) => (v = nI 0 ∧ ∃ b, qo_common S x y x2 y2 b u.1 ∧ u.2 0 = (if b = 0 then 0 else 1)) ∨ (u.1 = S ∧ ∃ E, qx_common S x y x2 y2 E ∧ ((E = kx_nse ∧ v = nI 1)))) (lo_q G cJ o) (lo_A G o)) 2 12 (lo_A G o) := by
  refine va_MetW (cc := cL_common) (maxL := 7) (ret := (some .int)) (hh := [(0, 21, 24, 21)]) (by decide) rfl ?_
  intro p e s m args below meth c s₁ B hml hv
  obtain ⟨rfl, hv⟩ := hv
  have hx := B.exec
  have hb := B.bytes
  have hr := B.returns
  have hlk := B.notSynchronized
  have hts := atoms_spec (ws := wL_common) B.pre
  have hT : ∀ w ∈ nw_T, w.before _ s = true := fun w h => hts w (List.mem_cons_of_mem _ h)
  have htab : c.exceptionTable.toList = _ := vx_table (x := yL_common) B (hts _ List.mem_cons_self)
  have hown : s.vm.findClass RL = some m.cls := findClass_of_methodNamed B.named
  obtain ⟨hpx, hO, hK2, hno, hN⟩ := hv
  have hK : kc_K G s := hpx.1.2.2
  have hX := hpx.2
  have hC := kc_start hpx.1
  have hl := lv_entry ([.ref (kg_h G), .int x, .int y, .int x2, .int y2, .ref o]) (n := 7) (Nat.le_of_ble_eq_true rfl)
  rw [lg_entry_eq]
  generalize (lg_sl ([.ref (kg_h G), .int x, .int y, .int x2, .int y2, .ref o]) ++ List.replicate (7 - (lg_sl ([.ref (kg_h G), .int x, .int y, .int x2, .int y2, .ref o])).length) Slot.unset).toArray = ls at hl ⊢
  have hl : lv_has ls 7 [(0, .ref (kg_h G)), (1, .int x), (2, .int y), (3, .int x2), (4, .int y2), (5, .ref o)] := hl
  refine lv_aload hx hb dL_common_0 (lv_at hl 5 rfl) ?_
  refine lv_iconst (v := (nI 0)) hx hb dL_common_2 (by decide +kernel) ?_
  refine lv_aload_n hx hb dL_common_3 rfl (lv_at hl 0 rfl) ?_
  refine lv_iload_n hx hb dL_common_4 rfl (lv_at hl 1 rfl) ?_
  refine lv_iload_n hx hb dL_common_5 rfl (lv_at hl 2 rfl) ?_
  refine lv_iload_n hx hb dL_common_6 rfl (lv_at hl 3 rfl) ?_
  refine lv_iload hx hb dL_common_7 (lv_at hl 4 rfl) ?_
  refine kr_xi (As := [.int x, .int y, .int x2, .int y2]) (rest := [.int (nI 0), .ref o]) (post := qo_common S x y x2 y2) (pe := qx_common S x y x2 y2) ⟨hx, hb, hml, hown, hts⟩ (k0_common l hl0 G S x y x2 y2 hP hV) (cwV 4 hts gL_50 rfl rfl rfl hX0_common ⟨Nat.le_of_ble_eq_true rfl, Nat.le_of_ble_eq_true rfl⟩) hK hX hC rfl hl.1 rfl (Nat.le_of_ble_eq_true rfl) dL_common_9 ⟨Nat.le_of_ble_eq_true rfl, Nat.le_of_ble_eq_true rfl⟩ (fun E ce q9 H locs hpe hC hce hcv hcl => ?_) (fun v S1 H locs hp hC => ?_)
  · have hO2 := lo_keep hO hno hC.2.2
    have hS2 := lo_S (o := o) hC.2.2
    have hq := hpe
    rcases hq with ⟨rfl, _⟩
    · refine vx_catch (own := RL) (name := kx_nse) hown [] ⟨0, 21, 24, 21⟩ [] (htab.trans rfl) (fun z hz => absurd hz List.not_mem_nil) (by decide +kernel) (by decide) (hT _ mw_207) (hX.2.2.use _ (by decide +kernel)) hce hcv hcl ?_
      refine lv_astore (lv' := [(6, .ref q9), (0, .ref (kg_h G)), (1, .int x), (2, .int y), (3, .int x2), (4, .int y2), (5, .ref o)]) hx hb dL_common_24 hl (by decide) rfl (fun ls hl => ?_)
      refine lv_iconst (v := (nI 1)) hx hb dL_common_26 (by decide +kernel) ?_
      exact lo_ret hx hb hr hlk hC.1 hC.2.1 hO2 hS2 (Or.inr ⟨rfl, _, hpe, ⟨rfl, rfl⟩⟩) dL_common_27 (Nat.le_of_ble_eq_true rfl) (Nat.le_of_ble_eq_true rfl)
  · have hO2 := lo_keep hO hno hC.2.2
    have hS2 := lo_S (o := o) hC.2.2
    refine lv_if_eq (tgt := 19) hx hb dL_common_12 rfl (fun h3 => ?_) (fun h3 => ?_)
    · refine lv_lconst (v := 0) hx hb dL_common_19 rfl ?_
      refine lo_st hx hb hK2 hO2 dL_common_20 (fun H3 f1 hf1 hO3 hz3 oq => ?_)
      refine lv_goto (tgt := 28) hx hb dL_common_21 rfl ?_
      refine lv_iconst (v := (nI 0)) hx hb dL_common_28 (by decide +kernel) ?_
      exact lo_ret hx hb hr hlk (lo_put hC.1 hC.2.1 hno oq) hC.2.1 hO3 (hS2.put hz3 oq (Or.inr rfl)) (Or.inl ⟨rfl, v, hp, hf1.trans (if_pos h3).symm⟩) dL_common_29 (Nat.le_of_ble_eq_true rfl) (Nat.le_of_ble_eq_true rfl)
    · refine lv_lconst (v := 1) hx hb dL_common_15 rfl ?_
      refine lv_goto (tgt := 20) hx hb dL_common_16 rfl ?_
      refine lo_st hx hb hK2 hO2 dL_common_20 (fun H3 f1 hf1 hO3 hz3 oq => ?_)
      refine lv_goto (tgt := 28) hx hb dL_common_21 rfl ?_
      refine lv_iconst (v := (nI 0)) hx hb dL_common_28 (by decide +kernel) ?_
      exact lo_ret hx hb hr hlk (lo_put hC.1 hC.2.1 hno oq) hC.2.1 hO3 (hS2.put hz3 oq (Or.inr rfl)) (Or.inl ⟨rfl, v, hp, hf1.trans (if_neg h3).symm⟩) dL_common_29 (Nat.le_of_ble_eq_true rfl) (Nat.le_of_ble_eq_true rfl)
set_option maxHeartbeats 4000000 in
set_option maxRecDepth 100000 in
theorem kL_holders (l : Launch) (hl0 : l.stackTraces = false) (G : kg_T) (cJ : ClassId) (o : Nat) (S : ks_T) (f : Nat → Int64) (x y : Int32) (hP : ∀ r, r < 40 → ks_P S r ≤ 33) (hV : kv_c S) : Met l yL_holders wL_holders ({ frames := 10, cells := 1, slots := 6, locals := 200 }) (va_Pc [.ref (kg_h G), .int x, .int y, .ref o] (lo_p G cJ o S f)) (va_Qi (fun (v : Int32) (u : ks_T × (Nat → Int64)) => (v = nI 0 ∧ ∃ b, qo_holders S x y b u.1 ∧ u.2 0 = b.toInt64) ∨ (u.1 = S ∧ ∃ E, qx_holders S x y E ∧ ((E = kx_nse ∧ v = nI 1)))) (lo_q G cJ o) (lo_A G o)) 1 6 (lo_A G o) := by
  refine va_MetW (cc := cL_holders) (maxL := 5) (ret := (some .int)) (hh := [(0, 10, 13, 21)]) (by decide) rfl ?_
  intro p e s m args below meth c s₁ B hml hv
  obtain ⟨rfl, hv⟩ := hv
  have hx := B.exec
  have hb := B.bytes
  have hr := B.returns
  have hlk := B.notSynchronized
  have hts := atoms_spec (ws := wL_holders) B.pre
  have hT : ∀ w ∈ nw_T, w.before _ s = true := fun w h => hts w (List.mem_cons_of_mem _ h)
  have htab : c.exceptionTable.toList = _ := vx_table (x := yL_holders) B (hts _ List.mem_cons_self)
  have hown : s.vm.findClass RL = some m.cls := findClass_of_methodNamed B.named
  obtain ⟨hpx, hO, hK2, hno, hN⟩ := hv
  have hK : kc_K G s := hpx.1.2.2
  have hX := hpx.2
  have hC := kc_start hpx.1
  have hl := lv_entry ([.ref (kg_h G), .int x, .int y, .ref o]) (n := 5) (Nat.le_of_ble_eq_true rfl)
  rw [lg_entry_eq]
  generalize (lg_sl ([.ref (kg_h G), .int x, .int y, .ref o]) ++ List.replicate (5 - (lg_sl ([.ref (kg_h G), .int x, .int y, .ref o])).length) Slot.unset).toArray = ls at hl ⊢
  have hl : lv_has ls 5 [(0, .ref (kg_h G)), (1, .int x), (2, .int y), (3, .ref o)] := hl
  refine lv_aload_n hx hb dL_holders_0 rfl (lv_at hl 3 rfl) ?_
  refine lv_iconst (v := (nI 0)) hx hb dL_holders_1 (by decide +kernel) ?_
  refine lv_aload_n hx hb dL_holders_2 rfl (lv_at hl 0 rfl) ?_
  refine lv_iload_n hx hb dL_holders_3 rfl (lv_at hl 1 rfl) ?_
  refine lv_iload_n hx hb dL_holders_4 rfl (lv_at hl 2 rfl) ?_
  refine kr_xi (As := [.int x, .int y]) (rest := [.int (nI 0), .ref o]) (post := qo_holders S x y) (pe := qx_holders S x y) ⟨hx, hb, hml, hown, hts⟩ (k0_holders l hl0 G S x y hP hV) (cwV 2 hts gL_54 rfl rfl rfl hX0_holders ⟨Nat.le_of_ble_eq_true rfl, Nat.le_of_ble_eq_true rfl⟩) hK hX hC rfl hl.1 rfl (Nat.le_of_ble_eq_true rfl) dL_holders_5 ⟨Nat.le_of_ble_eq_true rfl, Nat.le_of_ble_eq_true rfl⟩ (fun E ce q9 H locs hpe hC hce hcv hcl => ?_) (fun v S1 H locs hp hC => ?_)
  · have hO2 := lo_keep hO hno hC.2.2
    have hS2 := lo_S (o := o) hC.2.2
    have hq := hpe
    rcases hq with ⟨rfl, _⟩
    · refine vx_catch (own := RL) (name := kx_nse) hown [] ⟨0, 10, 13, 21⟩ [] (htab.trans rfl) (fun z hz => absurd hz List.not_mem_nil) (by decide +kernel) (by decide) (hT _ mw_207) (hX.2.2.use _ (by decide +kernel)) hce hcv hcl ?_
      refine lv_astore (lv' := [(4, .ref q9), (0, .ref (kg_h G)), (1, .int x), (2, .int y), (3, .ref o)]) hx hb dL_holders_13 hl (by decide) rfl (fun ls hl => ?_)
      refine lv_iconst (v := (nI 1)) hx hb dL_holders_15 (by decide +kernel) ?_
      exact lo_ret hx hb hr hlk hC.1 hC.2.1 hO2 hS2 (Or.inr ⟨rfl, _, hpe, ⟨rfl, rfl⟩⟩) dL_holders_16 (Nat.le_of_ble_eq_true rfl) (Nat.le_of_ble_eq_true rfl)
  · have hO2 := lo_keep hO hno hC.2.2
    have hS2 := lo_S (o := o) hC.2.2
    refine lv_i2l (v := v.toInt64) hx hb dL_holders_8 rfl ?_
    refine lo_st hx hb hK2 hO2 dL_holders_9 (fun H3 f1 hf1 hO3 hz3 oq => ?_)
    refine lv_goto (tgt := 17) hx hb dL_holders_10 rfl ?_
    refine lv_iconst (v := (nI 0)) hx hb dL_holders_17 (by decide +kernel) ?_
    exact lo_ret hx hb hr hlk (lo_put hC.1 hC.2.1 hno oq) hC.2.1 hO3 (hS2.put hz3 oq (Or.inr rfl)) (Or.inl ⟨rfl, v, hp, hf1⟩) dL_holders_18 (Nat.le_of_ble_eq_true rfl) (Nat.le_of_ble_eq_true rfl)
set_option maxHeartbeats 4000000 in
set_option maxRecDepth 100000 in
theorem kL_about (l : Launch) (hl0 : l.stackTraces = false) (G : kg_T) (cJ : ClassId) (o : Nat) (S : ks_T) (f : Nat → Int64) (x y : Int32) (hP : ∀ r, r < 40 → ks_P S r ≤ 33) (hV : kv_c S) : Met l yL_about wL_about ({ frames := 10, cells := 2, slots := 12, locals := 200 }) (va_Pc [.ref (kg_h G), .int x, .int y, .ref o] (lo_p G cJ o S f)) (va_Qi (fun (v : Int32) (u : ks_T × (Nat → Int64)) => (v = nI 0 ∧ ∃ b, qo_about S x y b u.1 ∧ u.2 0 = b.toInt64) ∨ (u.1 = S ∧ ∃ E, qx_about S x y E ∧ ((E = kx_nse ∧ v = nI 1) ∨ (E = kx_iae ∧ v = nI 2)))) (lo_q G cJ o) (lo_A G o)) 2 12 (lo_A G o) := by
  refine va_MetW (cc := cL_about) (maxL := 5) (ret := (some .int)) (hh := [(0, 10, 13, 21), (0, 10, 17, 13)]) (by decide) rfl ?_
  intro p e s m args below meth c s₁ B hml hv
  obtain ⟨rfl, hv⟩ := hv
  have hx := B.exec
  have hb := B.bytes
  have hr := B.returns
  have hlk := B.notSynchronized
  have hts := atoms_spec (ws := wL_about) B.pre
  have hT : ∀ w ∈ nw_T, w.before _ s = true := fun w h => hts w (List.mem_cons_of_mem _ h)
  have htab : c.exceptionTable.toList = _ := vx_table (x := yL_about) B (hts _ List.mem_cons_self)
  have hown : s.vm.findClass RL = some m.cls := findClass_of_methodNamed B.named
  obtain ⟨hpx, hO, hK2, hno, hN⟩ := hv
  have hK : kc_K G s := hpx.1.2.2
  have hX := hpx.2
  have hC := kc_start hpx.1
  have hl := lv_entry ([.ref (kg_h G), .int x, .int y, .ref o]) (n := 5) (Nat.le_of_ble_eq_true rfl)
  rw [lg_entry_eq]
  generalize (lg_sl ([.ref (kg_h G), .int x, .int y, .ref o]) ++ List.replicate (5 - (lg_sl ([.ref (kg_h G), .int x, .int y, .ref o])).length) Slot.unset).toArray = ls at hl ⊢
  have hl : lv_has ls 5 [(0, .ref (kg_h G)), (1, .int x), (2, .int y), (3, .ref o)] := hl
  refine lv_aload_n hx hb dL_about_0 rfl (lv_at hl 3 rfl) ?_
  refine lv_iconst (v := (nI 0)) hx hb dL_about_1 (by decide +kernel) ?_
  refine lv_aload_n hx hb dL_about_2 rfl (lv_at hl 0 rfl) ?_
  refine lv_iload_n hx hb dL_about_3 rfl (lv_at hl 1 rfl) ?_
  refine lv_iload_n hx hb dL_about_4 rfl (lv_at hl 2 rfl) ?_
  refine kr_xi (As := [.int x, .int y]) (rest := [.int (nI 0), .ref o]) (post := qo_about S x y) (pe := qx_about S x y) ⟨hx, hb, hml, hown, hts⟩ (k0_about l hl0 G S x y hP hV) (cwV 2 hts gL_57 rfl rfl rfl hX0_about ⟨Nat.le_of_ble_eq_true rfl, Nat.le_of_ble_eq_true rfl⟩) hK hX hC rfl hl.1 rfl (Nat.le_of_ble_eq_true rfl) dL_about_5 ⟨Nat.le_of_ble_eq_true rfl, Nat.le_of_ble_eq_true rfl⟩ (fun E ce q9 H locs hpe hC hce hcv hcl => ?_) (fun v S1 H locs hp hC => ?_)
  · have hO2 := lo_keep hO hno hC.2.2
    have hS2 := lo_S (o := o) hC.2.2
    have hq := hpe
    rcases hq with ⟨rfl, _⟩ | ⟨rfl, _⟩
    · refine vx_catch (own := RL) (name := kx_nse) hown [] ⟨0, 10, 13, 21⟩ [⟨0, 10, 17, 13⟩] (htab.trans rfl) (fun z hz => absurd hz List.not_mem_nil) (by decide +kernel) (by decide) (hT _ mw_207) (hX.2.2.use _ (by decide +kernel)) hce hcv hcl ?_
      refine lv_astore (lv' := [(4, .ref q9), (0, .ref (kg_h G)), (1, .int x), (2, .int y), (3, .ref o)]) hx hb dL_about_13 hl (by decide) rfl (fun ls hl => ?_)
      refine lv_iconst (v := (nI 1)) hx hb dL_about_15 (by decide +kernel) ?_
      exact lo_ret hx hb hr hlk hC.1 hC.2.1 hO2 hS2 (Or.inr ⟨rfl, _, hpe, Or.inl ⟨rfl, rfl⟩⟩) dL_about_16 (Nat.le_of_ble_eq_true rfl) (Nat.le_of_ble_eq_true rfl)
    · refine vx_catch (own := RL) (name := kx_iae) hown [⟨0, 10, 13, 21⟩] ⟨0, 10, 17, 13⟩ [] (htab.trans rfl) (fun z hz => by rw [List.mem_singleton.mp hz]; exact Or.inr ⟨by decide, kx_nse, hT _ mw_207, hN.2.2.2⟩) (by decide +kernel) (by decide) (hT _ mw_111) (hX.2.2.use _ (by decide +kernel)) hce hcv hcl ?_
      refine lv_astore (lv' := [(4, .ref q9), (0, .ref (kg_h G)), (1, .int x), (2, .int y), (3, .ref o)]) hx hb dL_about_17 hl (by decide) rfl (fun ls hl => ?_)
      refine lv_iconst (v := (nI 2)) hx hb dL_about_19 (by decide +kernel) ?_
      exact lo_ret hx hb hr hlk hC.1 hC.2.1 hO2 hS2 (Or.inr ⟨rfl, _, hpe, Or.inr ⟨rfl, rfl⟩⟩) dL_about_20 (Nat.le_of_ble_eq_true rfl) (Nat.le_of_ble_eq_true rfl)
  · have hO2 := lo_keep hO hno hC.2.2
    have hS2 := lo_S (o := o) hC.2.2
    refine lv_i2l (v := v.toInt64) hx hb dL_about_8 rfl ?_
    refine lo_st hx hb hK2 hO2 dL_about_9 (fun H3 f1 hf1 hO3 hz3 oq => ?_)
    refine lv_goto (tgt := 21) hx hb dL_about_10 rfl ?_
    refine lv_iconst (v := (nI 0)) hx hb dL_about_21 (by decide +kernel) ?_
    exact lo_ret hx hb hr hlk (lo_put hC.1 hC.2.1 hno oq) hC.2.1 hO3 (hS2.put hz3 oq (Or.inr rfl)) (Or.inl ⟨rfl, v, hp, hf1⟩) dL_about_22 (Nat.le_of_ble_eq_true rfl) (Nat.le_of_ble_eq_true rfl)
