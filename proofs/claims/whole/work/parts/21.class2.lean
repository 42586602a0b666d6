/-! the class's methods that may throw (laid by program) -/
set_option maxHeartbeats 4000000 in
set_option maxRecDepth 100000 in
/-- requireRow(x) -/
theorem k0_requireRow (l : Launch) (hl0 : l.stackTraces = false) (G : kg_T) (S : ks_T) (x : Int32) (hP : ∀ r, r < 40 → ks_P S r ≤ 33) : vx_Met l yX0_requireRow wX0_requireRow ({ frames := 6, cells := 1, slots := 6, locals := 90 }) (va_Pc [.ref (kg_h G), .int x] (kc_px G S)) (va_Qv (fun S' : ks_T => ks_row S x = true ∧ S' = S) (kc_q G) (kg_A G)) (kc_xx G S (fun E : String => E = kx_nse ∧ ks_row S x = false)) 1 6 (kg_A G) := by
  refine vx_ofW (cc := cX0_requireRow) (maxL := 2) (ret := none) (by decide) rfl ?_
  intro p e s m args below meth c s₁ B hml ht hv
  obtain ⟨rfl, hv⟩ := hv
  have hx := B.exec
  have hb := B.bytes
  have hr := B.returns
  have hlk := B.notSynchronized
  have hts := atoms_spec (ws := wX0_requireRow) B.pre
  have hT : ∀ w ∈ nw_T, w.before _ s = true := fun w h => hts w (List.mem_cons_of_mem _ h)
  have hown : s.vm.findClass RX0 = some m.cls := findClass_of_methodNamed B.named
  have hK : kc_K G s := hv.1.2.2
  have hX := hv.2
  have hC := kc_start hv.1
  have hl := lv_entry ([.ref (kg_h G), .int x]) (n := 2) (Nat.le_of_ble_eq_true rfl)
  rw [lg_entry_eq]
  generalize (lg_sl ([.ref (kg_h G), .int x]) ++ List.replicate (2 - (lg_sl ([.ref (kg_h G), .int x])).length) Slot.unset).toArray = ls at hl ⊢
  have hl : lv_has ls 2 [(0, .ref (kg_h G)), (1, .int x)] := hl
  refine lv_aload_n hx hb dX0_requireRow_0 rfl (lv_at hl 0 rfl) ?_
  refine lv_iload_n hx hb dX0_requireRow_1 rfl (lv_at hl 1 rfl) ?_
  refine kr_ci (As := [.int x]) (rest := []) ⟨hx, hb, hml, hown, hts⟩ (k0_isRow l G S x hP) (cwV 1 hts gX0_113 rfl rfl rfl hX0_isRow ⟨Nat.le_of_ble_eq_true rfl, Nat.le_of_ble_eq_true rfl⟩) hK hC rfl hl.1 rfl (Nat.le_of_ble_eq_true rfl) dX0_requireRow_2 ⟨Nat.le_of_ble_eq_true rfl, Nat.le_of_ble_eq_true rfl⟩ (fun v S1 H locs hp hC => ?_)
  obtain ⟨hv1, hS1⟩ := hp
  rw [hS1] at hC
  rcases (Bool.eq_false_or_eq_true (ks_row S x)).symm with hrow | hrow
  · have hv2 : v = 0 := by rw [hv1, hrow]; rfl
    refine lv_if_ne (tgt := 16) hx hb dX0_requireRow_5 rfl (fun h9 => absurd hv2 h9) (fun _ => ?_)
    exact kr_th kx_nseOk hx hb hl0 hown hT hX hC (hl.1.trans hml.symm) ht dX0_requireRow_8 dX0_requireRow_11 dX0_requireRow_12 dX0_requireRow_15 (Nat.le_of_ble_eq_true rfl) (Nat.le_of_ble_eq_true rfl) (Nat.le_of_ble_eq_true rfl) (Nat.le_of_ble_eq_true rfl) hlk (⟨rfl, hrow⟩) (Nat.le_of_ble_eq_true rfl) (Nat.le_of_ble_eq_true rfl)
  · have hv2 : ¬ v = 0 := by rw [hv1, hrow]; decide
    refine lv_if_ne (tgt := 16) hx hb dX0_requireRow_5 rfl (fun _ => ?_) (fun h9 => absurd h9 hv2)
    exact kr_xvret hx hb hr hlk hC (⟨hrow, rfl⟩) dX0_requireRow_16 (Nat.le_of_ble_eq_true rfl) (Nat.le_of_ble_eq_true rfl)
set_option maxHeartbeats 4000000 in
set_option maxRecDepth 100000 in
/-- requirePage(x, z) -/
theorem k0_requirePage (l : Launch) (hl0 : l.stackTraces = false) (G : kg_T) (S : ks_T) (x z : Int32) (hP : ∀ r, r < 40 → ks_P S r ≤ 33) : vx_Met l yX0_requirePage wX0_requirePage ({ frames := 6, cells := 1, slots := 6, locals := 90 }) (va_Pc [.ref (kg_h G), .int x, .int z] (kc_px G S)) (va_Qv (fun S' : ks_T => ks_page S x z = true ∧ S' = S) (kc_q G) (kg_A G)) (kc_xx G S (fun E : String => E = kx_nse ∧ ks_page S x z = false)) 1 6 (kg_A G) := by
  refine vx_ofW (cc := cX0_requirePage) (maxL := 3) (ret := none) (by decide) rfl ?_
  intro p e s m args below meth c s₁ B hml ht hv
  obtain ⟨rfl, hv⟩ := hv
  have hx := B.exec
  have hb := B.bytes
  have hr := B.returns
  have hlk := B.notSynchronized
  have hts := atoms_spec (ws := wX0_requirePage) B.pre
  have hT : ∀ w ∈ nw_T, w.before _ s = true := fun w h => hts w (List.mem_cons_of_mem _ h)
  have hown : s.vm.findClass RX0 = some m.cls := findClass_of_methodNamed B.named
  have hK : kc_K G s := hv.1.2.2
  have hX := hv.2
  have hC := kc_start hv.1
  have hl := lv_entry ([.ref (kg_h G), .int x, .int z]) (n := 3) (Nat.le_of_ble_eq_true rfl)
  rw [lg_entry_eq]
  generalize (lg_sl ([.ref (kg_h G), .int x, .int z]) ++ List.replicate (3 - (lg_sl ([.ref (kg_h G), .int x, .int z])).length) Slot.unset).toArray = ls at hl ⊢
  have hl : lv_has ls 3 [(0, .ref (kg_h G)), (1, .int x), (2, .int z)] := hl
  refine lv_aload_n hx hb dX0_requirePage_0 rfl (lv_at hl 0 rfl) ?_
  refine lv_iload_n hx hb dX0_requirePage_1 rfl (lv_at hl 1 rfl) ?_
  refine kr_ci (As := [.int x]) (rest := []) ⟨hx, hb, hml, hown, hts⟩ (k0_isRow l G S x hP) (cwV 1 hts gX0_113 rfl rfl rfl hX0_isRow ⟨Nat.le_of_ble_eq_true rfl, Nat.le_of_ble_eq_true rfl⟩) hK hC rfl hl.1 rfl (Nat.le_of_ble_eq_true rfl) dX0_requirePage_2 ⟨Nat.le_of_ble_eq_true rfl, Nat.le_of_ble_eq_true rfl⟩ (fun v S1 H locs hp hC => ?_)
  obtain ⟨hv1, hS1⟩ := hp
  rw [hS1] at hC
  rcases (Bool.eq_false_or_eq_true (ks_row S x)).symm with hrow | hrow
  · have hv2 : v = 0 := by rw [hv1, hrow]; rfl
    refine lv_if_eq (tgt := 22) hx hb dX0_requirePage_5 rfl (fun _ => ?_) (fun h9 => absurd hv2 h9)
    exact kr_th kx_nseOk hx hb hl0 hown hT hX hC (hl.1.trans hml.symm) ht dX0_requirePage_22 dX0_requirePage_25 dX0_requirePage_26 dX0_requirePage_29 (Nat.le_of_ble_eq_true rfl) (Nat.le_of_ble_eq_true rfl) (Nat.le_of_ble_eq_true rfl) (Nat.le_of_ble_eq_true rfl) hlk (⟨rfl, ks_page_no hrow⟩) (Nat.le_of_ble_eq_true rfl) (Nat.le_of_ble_eq_true rfl)
  · have hv2 : ¬ v = 0 := by rw [hv1, hrow]; decide
    refine lv_if_eq (tgt := 22) hx hb dX0_requirePage_5 rfl (fun h9 => absurd h9 hv2) (fun _ => ?_)
    obtain ⟨j, hj, rfl, h0⟩ := ks_row_ex hrow
    refine lv_iload_n hx hb dX0_requirePage_8 rfl (lv_at hl 2 rfl) ?_
    refine lv_if_lt (tgt := 22) hx hb dX0_requirePage_9 rfl (fun h1 => ?_) (fun h1 => ?_)
    · have e1 : ks_page S (nI j) z = false := by rw [ks_page_at hj h0, decide_eq_false (fun w => w h1)]; rfl
      exact kr_th kx_nseOk hx hb hl0 hown hT hX hC (hl.1.trans hml.symm) ht dX0_requirePage_22 dX0_requirePage_25 dX0_requirePage_26 dX0_requirePage_29 (Nat.le_of_ble_eq_true rfl) (Nat.le_of_ble_eq_true rfl) (Nat.le_of_ble_eq_true rfl) (Nat.le_of_ble_eq_true rfl) hlk (⟨rfl, e1⟩) (Nat.le_of_ble_eq_true rfl) (Nat.le_of_ble_eq_true rfl)
    · refine lv_iload_n hx hb dX0_requirePage_12 rfl (lv_at hl 2 rfl) ?_
      refine lv_aload_n hx hb dX0_requirePage_13 rfl (lv_at hl 0 rfl) ?_
      refine kr_get hx hb hT kx_in hown hK hC 0 (by decide) (hT _ mw_25) rfl rfl dX0_requirePage_14 ?_
      refine lv_iload_n hx hb dX0_requirePage_17 rfl (lv_at hl 1 rfl) ?_
      refine kr_ldP hx hb hK hC (by omega) dX0_requirePage_18 ?_
      rw [ks_es h0]
      refine lv_icmp_lt (tgt := 30) hx hb dX0_requirePage_19 rfl (fun h2 => ?_) (fun h2 => ?_)
      · have e1 : ks_page S (nI j) z = true := by rw [ks_page_at hj h0, decide_eq_true h1, decide_eq_true h2]; rfl
        exact kr_xvret hx hb hr hlk hC (⟨e1, rfl⟩) dX0_requirePage_30 (Nat.le_of_ble_eq_true rfl) (Nat.le_of_ble_eq_true rfl)
      · have e1 : ks_page S (nI j) z = false := by rw [ks_page_at hj h0, decide_eq_true h1, decide_eq_false h2]; rfl
        exact kr_th kx_nseOk hx hb hl0 hown hT hX hC (hl.1.trans hml.symm) ht dX0_requirePage_22 dX0_requirePage_25 dX0_requirePage_26 dX0_requirePage_29 (Nat.le_of_ble_eq_true rfl) (Nat.le_of_ble_eq_true rfl) (Nat.le_of_ble_eq_true rfl) (Nat.le_of_ble_eq_true rfl) hlk (⟨rfl, e1⟩) (Nat.le_of_ble_eq_true rfl) (Nat.le_of_ble_eq_true rfl)
set_option maxHeartbeats 4000000 in
set_option maxRecDepth 100000 in
/-- requirePages(x, z, k) -/
theorem k0_requirePages (l : Launch) (hl0 : l.stackTraces = false) (G : kg_T) (S : ks_T) (x z k : Int32) (hP : ∀ r, r < 40 → ks_P S r ≤ 33) : vx_Met l yX0_requirePages wX0_requirePages ({ frames := 6, cells := 1, slots := 6, locals := 90 }) (va_Pc [.ref (kg_h G), .int x, .int z, .int k] (kc_px G S)) (va_Qv (fun S' : ks_T => ks_pages S x z k = true ∧ S' = S) (kc_q G) (kg_A G)) (kc_xx G S (fun E : String => E = kx_nse ∧ ks_pages S x z k = false)) 1 6 (kg_A G) := by
  refine vx_ofW (cc := cX0_requirePages) (maxL := 4) (ret := none) (by decide) rfl ?_
  intro p e s m args below meth c s₁ B hml ht hv
  obtain ⟨rfl, hv⟩ := hv
  have hx := B.exec
  have hb := B.bytes
  have hr := B.returns
  have hlk := B.notSynchronized
  have hts := atoms_spec (ws := wX0_requirePages) B.pre
  have hT : ∀ w ∈ nw_T, w.before _ s = true := fun w h => hts w (List.mem_cons_of_mem _ h)
  have hown : s.vm.findClass RX0 = some m.cls := findClass_of_methodNamed B.named
  have hK : kc_K G s := hv.1.2.2
  have hX := hv.2
  have hC := kc_start hv.1
  have hl := lv_entry ([.ref (kg_h G), .int x, .int z, .int k]) (n := 4) (Nat.le_of_ble_eq_true rfl)
  rw [lg_entry_eq]
  generalize (lg_sl ([.ref (kg_h G), .int x, .int z, .int k]) ++ List.replicate (4 - (lg_sl ([.ref (kg_h G), .int x, .int z, .int k])).length) Slot.unset).toArray = ls at hl ⊢
  have hl : lv_has ls 4 [(0, .ref (kg_h G)), (1, .int x), (2, .int z), (3, .int k)] := hl
  refine lv_aload_n hx hb dX0_requirePages_0 rfl (lv_at hl 0 rfl) ?_
  refine lv_iload_n hx hb dX0_requirePages_1 rfl (lv_at hl 1 rfl) ?_
  refine kr_ci (As := [.int x]) (rest := []) ⟨hx, hb, hml, hown, hts⟩ (k0_isRow l G S x hP) (cwV 1 hts gX0_113 rfl rfl rfl hX0_isRow ⟨Nat.le_of_ble_eq_true rfl, Nat.le_of_ble_eq_true rfl⟩) hK hC rfl hl.1 rfl (Nat.le_of_ble_eq_true rfl) dX0_requirePages_2 ⟨Nat.le_of_ble_eq_true rfl, Nat.le_of_ble_eq_true rfl⟩ (fun v S1 H locs hp hC => ?_)
  obtain ⟨hv1, hS1⟩ := hp
  rw [hS1] at hC
  rcases (Bool.eq_false_or_eq_true (ks_row S x)).symm with hrow | hrow
  · have hv2 : v = 0 := by rw [hv1, hrow]; rfl
    refine lv_if_eq (tgt := 28) hx hb dX0_requirePages_5 rfl (fun _ => ?_) (fun h9 => absurd hv2 h9)
    exact kr_th kx_nseOk hx hb hl0 hown hT hX hC (hl.1.trans hml.symm) ht dX0_requirePages_28 dX0_requirePages_31 dX0_requirePages_32 dX0_requirePages_35 (Nat.le_of_ble_eq_true rfl) (Nat.le_of_ble_eq_true rfl) (Nat.le_of_ble_eq_true rfl) (Nat.le_of_ble_eq_true rfl) hlk (⟨rfl, ks_pages_no hrow⟩) (Nat.le_of_ble_eq_true rfl) (Nat.le_of_ble_eq_true rfl)
  · have hv2 : ¬ v = 0 := by rw [hv1, hrow]; decide
    refine lv_if_eq (tgt := 28) hx hb dX0_requirePages_5 rfl (fun h9 => absurd h9 hv2) (fun _ => ?_)
    obtain ⟨j, hj, rfl, h0⟩ := ks_row_ex hrow
    refine lv_iload_n hx hb dX0_requirePages_8 rfl (lv_at hl 2 rfl) ?_
    refine lv_if_lt (tgt := 28) hx hb dX0_requirePages_9 rfl (fun h1 => ?_) (fun h1 => ?_)
    · have e1 : ks_pages S (nI j) z k = false := by rw [ks_pages_at hj h0, decide_eq_false (fun w => w h1)]; rfl
      exact kr_th kx_nseOk hx hb hl0 hown hT hX hC (hl.1.trans hml.symm) ht dX0_requirePages_28 dX0_requirePages_31 dX0_requirePages_32 dX0_requirePages_35 (Nat.le_of_ble_eq_true rfl) (Nat.le_of_ble_eq_true rfl) (Nat.le_of_ble_eq_true rfl) (Nat.le_of_ble_eq_true rfl) hlk (⟨rfl, e1⟩) (Nat.le_of_ble_eq_true rfl) (Nat.le_of_ble_eq_true rfl)
    · refine lv_iload_n hx hb dX0_requirePages_12 rfl (lv_at hl 3 rfl) ?_
      refine lv_if_lt (tgt := 28) hx hb dX0_requirePages_13 rfl (fun h2 => ?_) (fun h2 => ?_)
      · have e1 : ks_pages S (nI j) z k = false := by rw [ks_pages_at hj h0, decide_eq_true h1, decide_eq_false (fun w => w h2)]; rfl
        exact kr_th kx_nseOk hx hb hl0 hown hT hX hC (hl.1.trans hml.symm) ht dX0_requirePages_28 dX0_requirePages_31 dX0_requirePages_32 dX0_requirePages_35 (Nat.le_of_ble_eq_true rfl) (Nat.le_of_ble_eq_true rfl) (Nat.le_of_ble_eq_true rfl) (Nat.le_of_ble_eq_true rfl) hlk (⟨rfl, e1⟩) (Nat.le_of_ble_eq_true rfl) (Nat.le_of_ble_eq_true rfl)
      · refine lv_iload_n hx hb dX0_requirePages_16 rfl (lv_at hl 2 rfl) ?_
        refine lv_aload_n hx hb dX0_requirePages_17 rfl (lv_at hl 0 rfl) ?_
        refine kr_get hx hb hT kx_in hown hK hC 0 (by decide) (hT _ mw_25) rfl rfl dX0_requirePages_18 ?_
        refine lv_iload_n hx hb dX0_requirePages_21 rfl (lv_at hl 1 rfl) ?_
        refine kr_ldP hx hb hK hC (by omega) dX0_requirePages_22 ?_
        rw [ks_es h0]
        refine lv_iload_n hx hb dX0_requirePages_23 rfl (lv_at hl 3 rfl) ?_
        refine lv_isub hx hb dX0_requirePages_24 ?_
        refine lv_icmp_le (tgt := 36) hx hb dX0_requirePages_25 rfl (fun h3 => ?_) (fun h3 => ?_)
        · have e1 : ks_pages S (nI j) z k = true := by rw [ks_pages_at hj h0, decide_eq_true h1, decide_eq_true h2, decide_eq_true h3]; rfl
          exact kr_xvret hx hb hr hlk hC (⟨e1, rfl⟩) dX0_requirePages_36 (Nat.le_of_ble_eq_true rfl) (Nat.le_of_ble_eq_true rfl)
        · have e1 : ks_pages S (nI j) z k = false := by rw [ks_pages_at hj h0, decide_eq_true h1, decide_eq_true h2, decide_eq_false h3]; rfl
          exact kr_th kx_nseOk hx hb hl0 hown hT hX hC (hl.1.trans hml.symm) ht dX0_requirePages_28 dX0_requirePages_31 dX0_requirePages_32 dX0_requirePages_35 (Nat.le_of_ble_eq_true rfl) (Nat.le_of_ble_eq_true rfl) (Nat.le_of_ble_eq_true rfl) (Nat.le_of_ble_eq_true rfl) hlk (⟨rfl, e1⟩) (Nat.le_of_ble_eq_true rfl) (Nat.le_of_ble_eq_true rfl)
set_option maxHeartbeats 4000000 in
set_option maxRecDepth 100000 in
/-- requireCell(x) -/
theorem k0_requireCell (l : Launch) (hl0 : l.stackTraces = false) (G : kg_T) (S : ks_T) (x : Int32) : vx_Met l yX0_requireCell wX0_requireCell ({ frames := 6, cells := 1, slots := 6, locals := 90 }) (va_Pc [.ref (kg_h G), .int x] (kc_px G S)) (va_Qv (fun S' : ks_T => ks_cell x = true ∧ S' = S) (kc_q G) (kg_A G)) (kc_xx G S (fun E : String => E = kx_nse ∧ ks_cell x = false)) 1 6 (kg_A G) := by
  refine vx_ofW (cc := cX0_requireCell) (maxL := 2) (ret := none) (by decide) rfl ?_
  intro p e s m args below meth c s₁ B hml ht hv
  obtain ⟨rfl, hv⟩ := hv
  have hx := B.exec
  have hb := B.bytes
  have hr := B.returns
  have hlk := B.notSynchronized
  have hts := atoms_spec (ws := wX0_requireCell) B.pre
  have hT : ∀ w ∈ nw_T, w.before _ s = true := fun w h => hts w (List.mem_cons_of_mem _ h)
  have hown : s.vm.findClass RX0 = some m.cls := findClass_of_methodNamed B.named
  have hK : kc_K G s := hv.1.2.2
  have hX := hv.2
  have hC := kc_start hv.1
  have hl := lv_entry ([.ref (kg_h G), .int x]) (n := 2) (Nat.le_of_ble_eq_true rfl)
  rw [lg_entry_eq]
  generalize (lg_sl ([.ref (kg_h G), .int x]) ++ List.replicate (2 - (lg_sl ([.ref (kg_h G), .int x])).length) Slot.unset).toArray = ls at hl ⊢
  have hl : lv_has ls 2 [(0, .ref (kg_h G)), (1, .int x)] := hl
  refine lv_iload_n hx hb dX0_requireCell_0 rfl (lv_at hl 1 rfl) ?_
  refine lv_if_lt (tgt := 10) hx hb dX0_requireCell_1 rfl (fun h1 => ?_) (fun h1 => ?_)
  · have e1 : ks_cell x = false := by unfold ks_cell; rw [decide_eq_false (fun w => w h1)]; rfl
    exact kr_th kx_nseOk hx hb hl0 hown hT hX hC (hl.1.trans hml.symm) ht dX0_requireCell_10 dX0_requireCell_13 dX0_requireCell_14 dX0_requireCell_17 (Nat.le_of_ble_eq_true rfl) (Nat.le_of_ble_eq_true rfl) (Nat.le_of_ble_eq_true rfl) (Nat.le_of_ble_eq_true rfl) hlk (⟨rfl, e1⟩) (Nat.le_of_ble_eq_true rfl) (Nat.le_of_ble_eq_true rfl)
  · refine lv_iload_n hx hb dX0_requireCell_4 rfl (lv_at hl 1 rfl) ?_
    refine lv_bipush (v := (nI 8)) hx hb dX0_requireCell_5 (by decide +kernel) ?_
    refine lv_icmp_lt (tgt := 18) hx hb dX0_requireCell_7 rfl (fun h2 => ?_) (fun h2 => ?_)
    · have e1 : ks_cell x = true := by unfold ks_cell; rw [decide_eq_true h1, decide_eq_true h2]; rfl
      exact kr_xvret hx hb hr hlk hC (⟨e1, rfl⟩) dX0_requireCell_18 (Nat.le_of_ble_eq_true rfl) (Nat.le_of_ble_eq_true rfl)
    · have e1 : ks_cell x = false := by unfold ks_cell; rw [decide_eq_true h1, decide_eq_false h2]; rfl
      exact kr_th kx_nseOk hx hb hl0 hown hT hX hC (hl.1.trans hml.symm) ht dX0_requireCell_10 dX0_requireCell_13 dX0_requireCell_14 dX0_requireCell_17 (Nat.le_of_ble_eq_true rfl) (Nat.le_of_ble_eq_true rfl) (Nat.le_of_ble_eq_true rfl) (Nat.le_of_ble_eq_true rfl) hlk (⟨rfl, e1⟩) (Nat.le_of_ble_eq_true rfl) (Nat.le_of_ble_eq_true rfl)
set_option maxHeartbeats 4000000 in
set_option maxRecDepth 100000 in
/-- requirePageCount(x) -/
theorem k0_requirePageCount (l : Launch) (hl0 : l.stackTraces = false) (G : kg_T) (S : ks_T) (x : Int32) : vx_Met l yX0_requirePageCount wX0_requirePageCount ({ frames := 6, cells := 1, slots := 6, locals := 90 }) (va_Pc [.ref (kg_h G), .int x] (kc_px G S)) (va_Qv (fun S' : ks_T => ks_cnt x = true ∧ S' = S) (kc_q G) (kg_A G)) (kc_xx G S (fun E : String => E = kx_iae ∧ ks_cnt x = false)) 1 6 (kg_A G) := by
  refine vx_ofW (cc := cX0_requirePageCount) (maxL := 2) (ret := none) (by decide) rfl ?_
  intro p e s m args below meth c s₁ B hml ht hv
  obtain ⟨rfl, hv⟩ := hv
  have hx := B.exec
  have hb := B.bytes
  have hr := B.returns
  have hlk := B.notSynchronized
  have hts := atoms_spec (ws := wX0_requirePageCount) B.pre
  have hT : ∀ w ∈ nw_T, w.before _ s = true := fun w h => hts w (List.mem_cons_of_mem _ h)
  have hown : s.vm.findClass RX0 = some m.cls := findClass_of_methodNamed B.named
  have hK : kc_K G s := hv.1.2.2
  have hX := hv.2
  have hC := kc_start hv.1
  have hl := lv_entry ([.ref (kg_h G), .int x]) (n := 2) (Nat.le_of_ble_eq_true rfl)
  rw [lg_entry_eq]
  generalize (lg_sl ([.ref (kg_h G), .int x]) ++ List.replicate (2 - (lg_sl ([.ref (kg_h G), .int x])).length) Slot.unset).toArray = ls at hl ⊢
  have hl : lv_has ls 2 [(0, .ref (kg_h G)), (1, .int x)] := hl
  refine lv_iload_n hx hb dX0_requirePageCount_0 rfl (lv_at hl 1 rfl) ?_
  refine lv_if_lt (tgt := 10) hx hb dX0_requirePageCount_1 rfl (fun h1 => ?_) (fun h1 => ?_)
  · have e1 : ks_cnt x = false := by unfold ks_cnt; rw [decide_eq_false (fun w => w h1)]; rfl
    exact kr_th kx_iaeOk hx hb hl0 hown hT hX hC (hl.1.trans hml.symm) ht dX0_requirePageCount_10 dX0_requirePageCount_13 dX0_requirePageCount_14 dX0_requirePageCount_17 (Nat.le_of_ble_eq_true rfl) (Nat.le_of_ble_eq_true rfl) (Nat.le_of_ble_eq_true rfl) (Nat.le_of_ble_eq_true rfl) hlk (⟨rfl, e1⟩) (Nat.le_of_ble_eq_true rfl) (Nat.le_of_ble_eq_true rfl)
  · refine lv_iload_n hx hb dX0_requirePageCount_4 rfl (lv_at hl 1 rfl) ?_
    refine lv_bipush (v := (nI 32)) hx hb dX0_requirePageCount_5 (by decide +kernel) ?_
    refine lv_icmp_le (tgt := 18) hx hb dX0_requirePageCount_7 rfl (fun h2 => ?_) (fun h2 => ?_)
    · have e1 : ks_cnt x = true := by unfold ks_cnt; rw [decide_eq_true h1, decide_eq_true h2]; rfl
      exact kr_xvret hx hb hr hlk hC (⟨e1, rfl⟩) dX0_requirePageCount_18 (Nat.le_of_ble_eq_true rfl) (Nat.le_of_ble_eq_true rfl)
    · have e1 : ks_cnt x = false := by unfold ks_cnt; rw [decide_eq_true h1, decide_eq_false h2]; rfl
      exact kr_th kx_iaeOk hx hb hl0 hown hT hX hC (hl.1.trans hml.symm) ht dX0_requirePageCount_10 dX0_requirePageCount_13 dX0_requirePageCount_14 dX0_requirePageCount_17 (Nat.le_of_ble_eq_true rfl) (Nat.le_of_ble_eq_true rfl) (Nat.le_of_ble_eq_true rfl) (Nat.le_of_ble_eq_true rfl) hlk (⟨rfl, e1⟩) (Nat.le_of_ble_eq_true rfl) (Nat.le_of_ble_eq_true rfl)
set_option maxHeartbeats 4000000 in
set_option maxRecDepth 100000 in
/-- requireFreeRow() -/
theorem k0_requireFreeRow (l : Launch) (hl0 : l.stackTraces = false) (G : kg_T) (S : ks_T) (hP : ∀ r, r < 40 → ks_P S r ≤ 33) : vx_Met l yX0_requireFreeRow wX0_requireFreeRow ({ frames := 6, cells := 1, slots := 6, locals := 90 }) (va_Pc [.ref (kg_h G)] (kc_px G S)) (va_Qi (fun (v : Int32) (S' : ks_T) => (∃ r, r < 40 ∧ v = nI r ∧ ks_P S r = 0 ∧ ∀ j, j < r → ks_P S j ≠ 0) ∧ S' = S) (kc_q G) (kg_A G)) (kc_xx G S (fun E : String => E = kx_ise ∧ ∀ j, j < 40 → ks_P S j ≠ 0)) 1 6 (kg_A G) := by
  refine vx_ofW (cc := cX0_requireFreeRow) (maxL := 2) (ret := (some .int)) (by decide) rfl ?_
  intro p e s m args below meth c s₁ B hml ht hv
  obtain ⟨rfl, hv⟩ := hv
  have hx := B.exec
  have hb := B.bytes
  have hr := B.returns
  have hlk := B.notSynchronized
  have hts := atoms_spec (ws := wX0_requireFreeRow) B.pre
  have hT : ∀ w ∈ nw_T, w.before _ s = true := fun w h => hts w (List.mem_cons_of_mem _ h)
  have hown : s.vm.findClass RX0 = some m.cls := findClass_of_methodNamed B.named
  have hK : kc_K G s := hv.1.2.2
  have hX := hv.2
  have hC := kc_start hv.1
  have hl := lv_entry ([.ref (kg_h G)]) (n := 2) (Nat.le_of_ble_eq_true rfl)
  rw [lg_entry_eq]
  generalize (lg_sl ([.ref (kg_h G)]) ++ List.replicate (2 - (lg_sl ([.ref (kg_h G)])).length) Slot.unset).toArray = ls at hl ⊢
  have hl : lv_has ls 2 [(0, .ref (kg_h G))] := hl
  refine lv_iconst (v := (nI 0)) hx hb dX0_requireFreeRow_0 (by decide +kernel) ?_
  refine lv_istore_n (lv' := [(1, .int (nI 0)), (0, .ref (kg_h G))]) hx hb dX0_requireFreeRow_1 rfl hl (by decide) rfl (fun ls hl => ?_)
  have loop : ∀ (n : Nat) (i : Nat) (ls : Array Slot) (H : Heap) (locs : List Loc), i + n = 40 → (∀ j, j < i → ks_P S j ≠ 0) → lv_has ls 2 [(1, .int (nI i)), (0, .ref (kg_h G))] → kc_at G (kg_A G) s.heap S H locs → W p l e (headSpec wX0_requireFreeRow ({ frames := 6, cells := 1, slots := 6, locals := 90 })).room s m [.ref (kg_h G)].toArray below meth c H locs 0 0 (vx_MQ below (va_Qi (fun (v : Int32) (S' : ks_T) => (∃ r, r < 40 ∧ v = nI r ∧ ks_P S r = 0 ∧ ∀ j, j < r → ks_P S j ≠ 0) ∧ S' = S) (kc_q G) (kg_A G)) (kc_xx G S (fun E : String => E = kx_ise ∧ ∀ j, j < 40 → ks_P S j ≠ 0)) [.ref (kg_h G)].toArray s 1 6 (kg_A G)) (F0 m 2 ls []) := by
    intro n
    induction n with
    | zero =>
      intro i ls H locs hm hI hl hC
      refine lv_iload_n hx hb dX0_requireFreeRow_2 rfl (lv_at hl 0 rfl) ?_
      refine lv_bipush (v := (nI 40)) hx hb dX0_requireFreeRow_3 (by decide +kernel) ?_
      refine wn_ge (tgt := 26) hx hb (by omega) (by omega) dX0_requireFreeRow_5 rfl (fun _ => ?_) (fun h9 => absurd h9 (by omega))
      exact kr_th kx_iseOk hx hb hl0 hown hT hX hC (hl.1.trans hml.symm) ht dX0_requireFreeRow_26 dX0_requireFreeRow_29 dX0_requireFreeRow_30 dX0_requireFreeRow_33 (Nat.le_of_ble_eq_true rfl) (Nat.le_of_ble_eq_true rfl) (Nat.le_of_ble_eq_true rfl) (Nat.le_of_ble_eq_true rfl) hlk (⟨rfl, fun j hj => hI j (by omega)⟩) (Nat.le_of_ble_eq_true rfl) (Nat.le_of_ble_eq_true rfl)
    | succ n ih =>
      intro i ls H locs hm hI hl hC
      refine lv_iload_n hx hb dX0_requireFreeRow_2 rfl (lv_at hl 0 rfl) ?_
      refine lv_bipush (v := (nI 40)) hx hb dX0_requireFreeRow_3 (by decide +kernel) ?_
      refine wn_ge (tgt := 26) hx hb (by omega) (by omega) dX0_requireFreeRow_5 rfl (fun h9 => absurd h9 (by omega)) (fun _ => ?_)
      refine lv_aload_n hx hb dX0_requireFreeRow_8 rfl (lv_at hl 1 rfl) ?_
      refine kr_get hx hb hT kx_in hown hK hC 0 (by decide) (hT _ mw_25) rfl rfl dX0_requireFreeRow_9 ?_
      refine lv_iload_n hx hb dX0_requireFreeRow_12 rfl (lv_at hl 0 rfl) ?_
      refine kr_ldP hx hb hK hC (by omega) dX0_requireFreeRow_13 ?_
      refine lv_iconst (v := (-1)) hx hb dX0_requireFreeRow_14 (by decide +kernel) ?_
      refine lv_icmp_ne (tgt := 20) hx hb dX0_requireFreeRow_15 rfl (fun h3 => ?_) (fun h3 => ?_)
      · refine lv_iinc (lv' := [(1, .int (nI (i + 1))), (0, .ref (kg_h G))]) (v := (nI (i + 1))) (k := 0) hx hb dX0_requireFreeRow_20 hl rfl (nI_1 _) (by decide) rfl (fun ls hl => ?_)
        refine lv_goto (tgt := 2) hx hb dX0_requireFreeRow_23 rfl ?_
        exact ih (i + 1) ls H locs (by omega) (lt_s hI (fun e => h3 ((ks_e0 (hP i (by omega))).mpr e))) hl hC
      · refine lv_iload_n hx hb dX0_requireFreeRow_18 rfl (lv_at hl 0 rfl) ?_
        exact kr_xiret hx hb hr hlk hC (⟨⟨i, by omega, rfl, (ks_e0 (hP i (by omega))).mp h3, hI⟩, rfl⟩) dX0_requireFreeRow_19 (Nat.le_of_ble_eq_true rfl) (Nat.le_of_ble_eq_true rfl)
  exact loop 40 0 ls s.heap [] rfl lt_0 hl hC
set_option maxHeartbeats 4000000 in
set_option maxRecDepth 100000 in
/-- requireFreeFrame() -/
theorem k0_requireFreeFrame (l : Launch) (hl0 : l.stackTraces = false) (G : kg_T) (S : ks_T) (hH : ∀ f, f < 201 → ks_H S f < 2 ^ 31) : vx_Met l yX0_requireFreeFrame wX0_requireFreeFrame ({ frames := 6, cells := 1, slots := 6, locals := 90 }) (va_Pc [.ref (kg_h G)] (kc_px G S)) (va_Qi (fun (v : Int32) (S' : ks_T) => (∃ f, 1 ≤ f ∧ f < 201 ∧ v = nI f ∧ ks_H S f = 0 ∧ ∀ j, 1 ≤ j → j < f → ks_H S j ≠ 0) ∧ S' = S) (kc_q G) (kg_A G)) (kc_xx G S (fun E : String => E = kx_ae ∧ ∀ j, 1 ≤ j → j < 201 → ks_H S j ≠ 0)) 1 6 (kg_A G) := by
  refine vx_ofW (cc := cX0_requireFreeFrame) (maxL := 2) (ret := (some .int)) (by decide) rfl ?_
  intro p e s m args below meth c s₁ B hml ht hv
  obtain ⟨rfl, hv⟩ := hv
  have hx := B.exec
  have hb := B.bytes
  have hr := B.returns
  have hlk := B.notSynchronized
  have hts := atoms_spec (ws := wX0_requireFreeFrame) B.pre
  have hT : ∀ w ∈ nw_T, w.before _ s = true := fun w h => hts w (List.mem_cons_of_mem _ h)
  have hown : s.vm.findClass RX0 = some m.cls := findClass_of_methodNamed B.named
  have hK : kc_K G s := hv.1.2.2
  have hX := hv.2
  have hC := kc_start hv.1
  have hl := lv_entry ([.ref (kg_h G)]) (n := 2) (Nat.le_of_ble_eq_true rfl)
  rw [lg_entry_eq]
  generalize (lg_sl ([.ref (kg_h G)]) ++ List.replicate (2 - (lg_sl ([.ref (kg_h G)])).length) Slot.unset).toArray = ls at hl ⊢
  have hl : lv_has ls 2 [(0, .ref (kg_h G))] := hl
  refine lv_iconst (v := (nI 1)) hx hb dX0_requireFreeFrame_0 (by decide +kernel) ?_
  refine lv_istore_n (lv' := [(1, .int (nI 1)), (0, .ref (kg_h G))]) hx hb dX0_requireFreeFrame_1 rfl hl (by decide) rfl (fun ls hl => ?_)
  have loop : ∀ (n : Nat) (i : Nat) (ls : Array Slot) (H : Heap) (locs : List Loc), i + n = 201 → 1 ≤ i → (∀ j, 1 ≤ j → j < i → ks_H S j ≠ 0) → lv_has ls 2 [(1, .int (nI i)), (0, .ref (kg_h G))] → kc_at G (kg_A G) s.heap S H locs → W p l e (headSpec wX0_requireFreeFrame ({ frames := 6, cells := 1, slots := 6, locals := 90 })).room s m [.ref (kg_h G)].toArray below meth c H locs 0 0 (vx_MQ below (va_Qi (fun (v : Int32) (S' : ks_T) => (∃ f, 1 ≤ f ∧ f < 201 ∧ v = nI f ∧ ks_H S f = 0 ∧ ∀ j, 1 ≤ j → j < f → ks_H S j ≠ 0) ∧ S' = S) (kc_q G) (kg_A G)) (kc_xx G S (fun E : String => E = kx_ae ∧ ∀ j, 1 ≤ j → j < 201 → ks_H S j ≠ 0)) [.ref (kg_h G)].toArray s 1 6 (kg_A G)) (F0 m 2 ls []) := by
    intro n
    induction n with
    | zero =>
      intro i ls H locs hm h1 hI hl hC
      refine lv_iload_n hx hb dX0_requireFreeFrame_2 rfl (lv_at hl 0 rfl) ?_
      refine lv_sipush (v := (nI 200)) hx hb dX0_requireFreeFrame_3 (by decide +kernel) ?_
      refine wn_gt (tgt := 26) hx hb (by omega) (by omega) dX0_requireFreeFrame_6 rfl (fun _ => ?_) (fun h9 => absurd h9 (by omega))
      exact kr_th kx_aeOk hx hb hl0 hown hT hX hC (hl.1.trans hml.symm) ht dX0_requireFreeFrame_26 dX0_requireFreeFrame_29 dX0_requireFreeFrame_30 dX0_requireFreeFrame_33 (Nat.le_of_ble_eq_true rfl) (Nat.le_of_ble_eq_true rfl) (Nat.le_of_ble_eq_true rfl) (Nat.le_of_ble_eq_true rfl) hlk (⟨rfl, fun j h2 hj => hI j h2 (by omega)⟩) (Nat.le_of_ble_eq_true rfl) (Nat.le_of_ble_eq_true rfl)
    | succ n ih =>
      intro i ls H locs hm h1 hI hl hC
      refine lv_iload_n hx hb dX0_requireFreeFrame_2 rfl (lv_at hl 0 rfl) ?_
      refine lv_sipush (v := (nI 200)) hx hb dX0_requireFreeFrame_3 (by decide +kernel) ?_
      refine wn_gt (tgt := 26) hx hb (by omega) (by omega) dX0_requireFreeFrame_6 rfl (fun h9 => absurd h9 (by omega)) (fun _ => ?_)
      refine lv_aload_n hx hb dX0_requireFreeFrame_9 rfl (lv_at hl 1 rfl) ?_
      refine kr_get hx hb hT kx_in hown hK hC 3 (by decide) (hT _ mw_28) rfl rfl dX0_requireFreeFrame_10 ?_
      refine lv_iload_n hx hb dX0_requireFreeFrame_13 rfl (lv_at hl 0 rfl) ?_
      refine kr_ldH hx hb hK hC (by omega) dX0_requireFreeFrame_14 ?_
      have hb1 := hH i (by omega)
      refine wn_if1 (tgt := 20) hx hb (by omega) dX0_requireFreeFrame_15 rfl (fun h3 => ?_) (fun h3 => ?_)
      · refine lv_iinc (lv' := [(1, .int (nI (i + 1))), (0, .ref (kg_h G))]) (v := (nI (i + 1))) (k := 0) hx hb dX0_requireFreeFrame_20 hl rfl (nI_1 _) (by decide) rfl (fun ls hl => ?_)
        refine lv_goto (tgt := 2) hx hb dX0_requireFreeFrame_23 rfl ?_
        exact ih (i + 1) ls H locs (by omega) (by omega) (fun j h2 hj => by
            by_cases e : j = i
            · rw [e]; exact h3
            · exact hI j h2 (by omega)) hl hC
      · refine lv_iload_n hx hb dX0_requireFreeFrame_18 rfl (lv_at hl 0 rfl) ?_
        exact kr_xiret hx hb hr hlk hC (⟨⟨i, h1, by omega, rfl, h3, hI⟩, rfl⟩) dX0_requireFreeFrame_19 (Nat.le_of_ble_eq_true rfl) (Nat.le_of_ble_eq_true rfl)
  exact loop 200 1 ls s.heap [] rfl (by omega) (fun j h2 h3 => absurd h3 (by omega)) hl hC
