/-! the class's public methods (laid by program) -/
set_option maxHeartbeats 4000000 in
set_option maxRecDepth 100000 in
/-- make(x) -/
theorem k0_make (l : Launch) (hl0 : l.stackTraces = false) (G : kg_T) (S : ks_T) (x : Int32) (hP : ∀ r, r < 40 → ks_P S r ≤ 33) (hV : kv_c S) : vx_Met l yX0_make wX0_make ({ frames := 7, cells := 2, slots := 12, locals := 122 }) (va_Pc [.ref (kg_h G), .int x] (kc_px G S)) (va_Qi (fun (v : Int32) (S' : ks_T) => ∃ r k, r < 40 ∧ k ≤ 32 ∧ x = nI k ∧ ks_P S r = 0 ∧ (∀ j, j < r → ks_P S j ≠ 0) ∧ v = nI r ∧ S' = ks_sP S r (k + 1)) (kc_q G) (kg_A G)) (kc_xx G S (fun E : String => (E = kx_iae ∧ ks_cnt x = false) ∨ (E = kx_ise ∧ ks_cnt x = true ∧ (∀ j, j < 40 → ks_P S j ≠ 0)))) 2 12 (kg_A G) := by
  refine vx_ofW (cc := cX0_make) (maxL := 3) (ret := (some .int)) (by decide) rfl ?_
  intro p e s m args below meth c s₁ B hml ht hv
  obtain ⟨rfl, hv⟩ := hv
  have hx := B.exec
  have hb := B.bytes
  have hr := B.returns
  have hlk := B.notSynchronized
  have hts := atoms_spec (ws := wX0_make) B.pre
  have hT : ∀ w ∈ nw_T, w.before _ s = true := fun w h => hts w (List.mem_cons_of_mem _ h)
  have hown : s.vm.findClass RX0 = some m.cls := findClass_of_methodNamed B.named
  have hK : kc_K G s := hv.1.2.2
  have hX := hv.2
  have hC := kc_start hv.1
  have hl := lv_entry ([.ref (kg_h G), .int x]) (n := 3) (Nat.le_of_ble_eq_true rfl)
  rw [lg_entry_eq]
  generalize (lg_sl ([.ref (kg_h G), .int x]) ++ List.replicate (3 - (lg_sl ([.ref (kg_h G), .int x])).length) Slot.unset).toArray = ls at hl ⊢
  have hl : lv_has ls 3 [(0, .ref (kg_h G)), (1, .int x)] := hl
  refine lv_aload_n hx hb dX0_make_0 rfl (lv_at hl 0 rfl) ?_
  refine lv_iload_n hx hb dX0_make_1 rfl (lv_at hl 1 rfl) ?_
  refine kr_xv (As := [.int x]) (rest := []) ⟨hx, hb, hml, hown, hts⟩ (k0_requirePageCount l hl0 G S x) (cwV 1 hts gX0_39 rfl rfl rfl hX0_requirePageCount ⟨Nat.le_of_ble_eq_true rfl, Nat.le_of_ble_eq_true rfl⟩) hK hX hC rfl hl.1 rfl (Nat.le_of_ble_eq_true rfl) dX0_make_2 ⟨Nat.le_of_ble_eq_true rfl, Nat.le_of_ble_eq_true rfl⟩ (fun E ce q9 H locs hpe hC hce hcv hcl => kr_out ht hlk (Or.inl hpe) hC hce hcv hcl (Nat.le_of_ble_eq_true rfl) (Nat.le_of_ble_eq_true rfl)) (fun S1 H locs hp hC => ?_)
  obtain ⟨hc1, hS1⟩ := hp
  rw [hS1] at hC
  obtain ⟨k, hk, rfl⟩ := ks_cnt_ex hc1
  refine lv_aload_n hx hb dX0_make_5 rfl (lv_at hl 0 rfl) ?_
  refine kr_xi (As := []) (rest := []) ⟨hx, hb, hml, hown, hts⟩ (k0_requireFreeRow l hl0 G S hP) (cwV 0 hts gX0_43 rfl rfl rfl hX0_requireFreeRow ⟨Nat.le_of_ble_eq_true rfl, Nat.le_of_ble_eq_true rfl⟩) hK hX hC rfl hl.1 rfl (Nat.le_of_ble_eq_true rfl) dX0_make_6 ⟨Nat.le_of_ble_eq_true rfl, Nat.le_of_ble_eq_true rfl⟩ (fun E ce q9 H locs hpe hC hce hcv hcl => kr_out ht hlk (Or.inr ⟨hpe.1, hc1, hpe.2⟩) hC hce hcv hcl (Nat.le_of_ble_eq_true rfl) (Nat.le_of_ble_eq_true rfl)) (fun v S1 H locs hp hC => ?_)
  obtain ⟨⟨r, hr4, rfl, hr0, hrm⟩, hS1⟩ := hp
  rw [hS1] at hC
  refine lv_istore_n (lv' := [(2, .int (nI r)), (0, .ref (kg_h G)), (1, .int (nI k))]) hx hb dX0_make_9 rfl hl (by decide) rfl (fun ls hl => ?_)
  refine lv_aload_n hx hb dX0_make_10 rfl (lv_at hl 1 rfl) ?_
  refine kr_get hx hb hT kx_in hown hK hC 0 (by decide) (hT _ mw_25) rfl rfl dX0_make_11 ?_
  refine lv_iload_n hx hb dX0_make_14 rfl (lv_at hl 0 rfl) ?_
  refine lv_iload_n hx hb dX0_make_15 rfl (lv_at hl 2 rfl) ?_
  refine kr_stP (y := k + 1) hx hb hK hC (by omega) rfl dX0_make_16 (fun H locs hC => ?_)
  refine lv_iload_n hx hb dX0_make_17 rfl (lv_at hl 0 rfl) ?_
  exact kr_xiret hx hb hr hlk hC (⟨r, k, hr4, hk, rfl, hr0, hrm, rfl, rfl⟩) dX0_make_18 (Nat.le_of_ble_eq_true rfl) (Nat.le_of_ble_eq_true rfl)
set_option maxHeartbeats 4000000 in
set_option maxRecDepth 100000 in
/-- share(x, y, z) -/
theorem k0_share (l : Launch) (hl0 : l.stackTraces = false) (G : kg_T) (S : ks_T) (x y z : Int32) (hP : ∀ r, r < 40 → ks_P S r ≤ 33) (hV : kv_c S) : vx_Met l yX0_share wX0_share ({ frames := 7, cells := 2, slots := 12, locals := 122 }) (va_Pc [.ref (kg_h G), .int x, .int y, .int z] (kc_px G S)) (va_Qi (fun (v : Int32) (S' : ks_T) => ∃ j a b r, j < 40 ∧ x = nI j ∧ y = nI a ∧ z = nI b ∧ ks_P S j ≠ 0 ∧ a + b + 1 ≤ ks_P S j ∧ r < 40 ∧ ks_P S r = 0 ∧ (∀ i, i < r → ks_P S i ≠ 0) ∧ v = nI r ∧ S' = ks_sh (ks_sP S r (b + 1)) r j a b) (kc_q G) (kg_A G)) (kc_xx G S (fun E : String => (E = kx_nse ∧ ks_pages S x y z = false) ∨ (E = kx_ise ∧ ks_pages S x y z = true ∧ (∀ j, j < 40 → ks_P S j ≠ 0)))) 2 12 (kg_A G) := by
  refine vx_ofW (cc := cX0_share) (maxL := 6) (ret := (some .int)) (by decide) rfl ?_
  intro p e s m args below meth c s₁ B hml ht hv
  obtain ⟨rfl, hv⟩ := hv
  have hx := B.exec
  have hb := B.bytes
  have hr := B.returns
  have hlk := B.notSynchronized
  have hts := atoms_spec (ws := wX0_share) B.pre
  have hT : ∀ w ∈ nw_T, w.before _ s = true := fun w h => hts w (List.mem_cons_of_mem _ h)
  have hown : s.vm.findClass RX0 = some m.cls := findClass_of_methodNamed B.named
  have hK : kc_K G s := hv.1.2.2
  have hX := hv.2
  have hC := kc_start hv.1
  have hl := lv_entry ([.ref (kg_h G), .int x, .int y, .int z]) (n := 6) (Nat.le_of_ble_eq_true rfl)
  rw [lg_entry_eq]
  generalize (lg_sl ([.ref (kg_h G), .int x, .int y, .int z]) ++ List.replicate (6 - (lg_sl ([.ref (kg_h G), .int x, .int y, .int z])).length) Slot.unset).toArray = ls at hl ⊢
  have hl : lv_has ls 6 [(0, .ref (kg_h G)), (1, .int x), (2, .int y), (3, .int z)] := hl
  refine lv_aload_n hx hb dX0_share_0 rfl (lv_at hl 0 rfl) ?_
  refine lv_iload_n hx hb dX0_share_1 rfl (lv_at hl 1 rfl) ?_
  refine lv_iload_n hx hb dX0_share_2 rfl (lv_at hl 2 rfl) ?_
  refine lv_iload_n hx hb dX0_share_3 rfl (lv_at hl 3 rfl) ?_
  refine kr_xv (As := [.int x, .int y, .int z]) (rest := []) ⟨hx, hb, hml, hown, hts⟩ (k0_requirePages l hl0 G S x y z hP) (cwV 3 hts gX0_47 rfl rfl rfl hX0_requirePages ⟨Nat.le_of_ble_eq_true rfl, Nat.le_of_ble_eq_true rfl⟩) hK hX hC rfl hl.1 rfl (Nat.le_of_ble_eq_true rfl) dX0_share_4 ⟨Nat.le_of_ble_eq_true rfl, Nat.le_of_ble_eq_true rfl⟩ (fun E ce q9 H locs hpe hC hce hcv hcl => kr_out ht hlk (Or.inl hpe) hC hce hcv hcl (Nat.le_of_ble_eq_true rfl) (Nat.le_of_ble_eq_true rfl)) (fun S1 H locs hp hC => ?_)
  obtain ⟨hc1, hS1⟩ := hp
  rw [hS1] at hC
  obtain ⟨jj, aa, bb, hj, rfl, rfl, rfl, hj0, hab, hab2⟩ := ks_pages_ex hP hc1
  refine lv_aload_n hx hb dX0_share_7 rfl (lv_at hl 0 rfl) ?_
  refine kr_xi (As := []) (rest := []) ⟨hx, hb, hml, hown, hts⟩ (k0_requireFreeRow l hl0 G S hP) (cwV 0 hts gX0_43 rfl rfl rfl hX0_requireFreeRow ⟨Nat.le_of_ble_eq_true rfl, Nat.le_of_ble_eq_true rfl⟩) hK hX hC rfl hl.1 rfl (Nat.le_of_ble_eq_true rfl) dX0_share_8 ⟨Nat.le_of_ble_eq_true rfl, Nat.le_of_ble_eq_true rfl⟩ (fun E ce q9 H locs hpe hC hce hcv hcl => kr_out ht hlk (Or.inr ⟨hpe.1, hc1, hpe.2⟩) hC hce hcv hcl (Nat.le_of_ble_eq_true rfl) (Nat.le_of_ble_eq_true rfl)) (fun v S1 H locs hp hC => ?_)
  obtain ⟨⟨r, hr4, rfl, hr0, hrm⟩, hS1⟩ := hp
  rw [hS1] at hC
  refine lv_istore (lv' := [(4, .int (nI r)), (0, .ref (kg_h G)), (1, .int (nI jj)), (2, .int (nI aa)), (3, .int (nI bb))]) hx hb dX0_share_11 hl (by decide) rfl (fun ls hl => ?_)
  refine lv_aload_n hx hb dX0_share_13 rfl (lv_at hl 1 rfl) ?_
  refine kr_get hx hb hT kx_in hown hK hC 0 (by decide) (hT _ mw_25) rfl rfl dX0_share_14 ?_
  refine lv_iload hx hb dX0_share_17 (lv_at hl 0 rfl) ?_
  refine lv_iload_n hx hb dX0_share_19 rfl (lv_at hl 4 rfl) ?_
  refine kr_stP (y := bb + 1) hx hb hK hC (by omega) rfl dX0_share_20 (fun H locs hC => ?_)
  have hV1 : kv_c (ks_sP S r (bb + 1)) := hV
  refine lv_iconst (v := (nI 0)) hx hb dX0_share_21 (by decide +kernel) ?_
  refine lv_istore (lv' := [(5, .int (nI 0)), (4, .int (nI r)), (0, .ref (kg_h G)), (1, .int (nI jj)), (2, .int (nI aa)), (3, .int (nI bb))]) hx hb dX0_share_22 hl (by decide) rfl (fun ls hl => ?_)
  have hC : kc_at G (kg_A G) s.heap (ks_sh (ks_sP S r (bb + 1)) r jj aa 0) H locs := hC
  have loop : ∀ (n : Nat) (i : Nat) (ls : Array Slot) (H : Heap) (locs : List Loc), i + n = bb → i ≤ bb → lv_has ls 6 [(5, .int (nI i)), (4, .int (nI r)), (0, .ref (kg_h G)), (1, .int (nI jj)), (2, .int (nI aa)), (3, .int (nI bb))] → kc_at G (kg_A G) s.heap (ks_sh (ks_sP S r (bb + 1)) r jj aa i) H locs → W p l e (headSpec wX0_share ({ frames := 7, cells := 2, slots := 12, locals := 122 })).room s m [.ref (kg_h G), .int (nI jj), .int (nI aa), .int (nI bb)].toArray below meth c H locs 2 12 (vx_MQ below (va_Qi (fun (v : Int32) (S' : ks_T) => ∃ j a b r, j < 40 ∧ (nI jj) = nI j ∧ (nI aa) = nI a ∧ (nI bb) = nI b ∧ ks_P S j ≠ 0 ∧ a + b + 1 ≤ ks_P S j ∧ r < 40 ∧ ks_P S r = 0 ∧ (∀ i, i < r → ks_P S i ≠ 0) ∧ v = nI r ∧ S' = ks_sh (ks_sP S r (b + 1)) r j a b) (kc_q G) (kg_A G)) (kc_xx G S (fun E : String => (E = kx_nse ∧ ks_pages S (nI jj) (nI aa) (nI bb) = false) ∨ (E = kx_ise ∧ ks_pages S (nI jj) (nI aa) (nI bb) = true ∧ (∀ j, j < 40 → ks_P S j ≠ 0)))) [.ref (kg_h G), .int (nI jj), .int (nI aa), .int (nI bb)].toArray s 2 12 (kg_A G)) (F0 m 24 ls []) := by
    intro n
    induction n with
    | zero =>
      intro i ls H locs hm hi hl hC
      refine lv_iload hx hb dX0_share_24 (lv_at hl 0 rfl) ?_
      refine lv_iload_n hx hb dX0_share_26 rfl (lv_at hl 5 rfl) ?_
      refine wn_ge (tgt := 56) hx hb (by omega) (by omega) dX0_share_27 rfl (fun _ => ?_) (fun h9 => absurd h9 (by omega))
      refine lv_iload hx hb dX0_share_56 (lv_at hl 1 rfl) ?_
      have e : i = bb := by omega
      exact kr_xiret hx hb hr hlk hC (⟨jj, aa, bb, r, hj, rfl, rfl, rfl, hj0, hab, hr4, hr0, hrm, rfl, by rw [e]⟩) dX0_share_58 (Nat.le_of_ble_eq_true rfl) (Nat.le_of_ble_eq_true rfl)
    | succ n ih =>
      intro i ls H locs hm hi hl hC
      refine lv_iload hx hb dX0_share_24 (lv_at hl 0 rfl) ?_
      refine lv_iload_n hx hb dX0_share_26 rfl (lv_at hl 5 rfl) ?_
      refine wn_ge (tgt := 56) hx hb (by omega) (by omega) dX0_share_27 rfl (fun h9 => absurd h9 (by omega)) (fun _ => ?_)
      have hVi := kv_sh hV1 hr4 hj (a := aa) i (by omega)
      refine lv_aload_n hx hb dX0_share_30 rfl (lv_at hl 2 rfl) ?_
      refine lv_iload hx hb dX0_share_31 (lv_at hl 1 rfl) ?_
      refine lv_iload hx hb dX0_share_33 (lv_at hl 0 rfl) ?_
      refine lv_aload_n hx hb dX0_share_35 rfl (lv_at hl 2 rfl) ?_
      refine kr_get hx hb hT kx_in hown hK hC 1 (by decide) (hT _ mw_26) rfl rfl dX0_share_36 ?_
      refine lv_iload_n hx hb dX0_share_39 rfl (lv_at hl 3 rfl) ?_
      refine kr_aF hx hb hK hC (by omega) dX0_share_40 ?_
      refine lv_iload_n hx hb dX0_share_41 rfl (lv_at hl 4 rfl) ?_
      refine lv_iload hx hb dX0_share_42 (lv_at hl 0 rfl) ?_
      refine wn_add hx hb dX0_share_44 ?_
      refine kr_ldF hx hb hK hC (by omega) (by omega) dX0_share_45 ?_
      refine kr_ci (As := [.int (nI r), .int (nI i), .int (nI (ks_F (ks_sh (ks_sP S r (bb + 1)) r jj aa i) jj (aa + i)))]) (rest := []) ⟨hx, hb, hml, hown, hts⟩ (k0_pointTo l G (ks_sh (ks_sP S r (bb + 1)) r jj aa i) r i (ks_F (ks_sh (ks_sP S r (bb + 1)) r jj aa i) jj (aa + i)) hr4 (by omega) (hVi.1 jj (aa + i) hj (by omega)) (hVi.1 r i hr4 (by omega)) (kv_h1 hVi _ hr4 (by omega)) (kv_h2 hVi _ hr4 (by omega))) (cwV 3 hts gX0_51 rfl rfl rfl hX0_pointTo ⟨Nat.le_of_ble_eq_true rfl, Nat.le_of_ble_eq_true rfl⟩) hK hC rfl hl.1 rfl (Nat.le_of_ble_eq_true rfl) dX0_share_46 ⟨Nat.le_of_ble_eq_true rfl, Nat.le_of_ble_eq_true rfl⟩ (fun v S1 H locs hp hC => ?_)
      obtain ⟨hv1, hS1⟩ := hp
      rw [hS1] at hC
      refine lv_pop hx hb dX0_share_49 rfl ?_
      refine lv_iinc (lv' := [(5, .int (nI (i + 1))), (4, .int (nI r)), (0, .ref (kg_h G)), (1, .int (nI jj)), (2, .int (nI aa)), (3, .int (nI bb))]) (v := (nI (i + 1))) (k := 0) hx hb dX0_share_50 hl rfl (nI_1 _) (by decide) rfl (fun ls hl => ?_)
      refine lv_goto (tgt := 24) hx hb dX0_share_53 rfl ?_
      exact ih (i + 1) ls H locs (by omega) (by omega) hl hC
  exact loop bb 0 ls H locs (by omega) (by omega) hl hC
set_option maxHeartbeats 4000000 in
set_option maxRecDepth 100000 in
/-- drop(x) -/
theorem k0_drop (l : Launch) (hl0 : l.stackTraces = false) (G : kg_T) (S : ks_T) (x : Int32) (hP : ∀ r, r < 40 → ks_P S r ≤ 33) (hV : kv_c S) : vx_Met l yX0_drop wX0_drop ({ frames := 7, cells := 1, slots := 6, locals := 122 }) (va_Pc [.ref (kg_h G), .int x] (kc_px G S)) (va_Qi (fun (v : Int32) (S' : ks_T) => ∃ j k, j < 40 ∧ x = nI j ∧ ks_P S j = k + 1 ∧ v = nI (kb_w S j 0 (k - 0)) ∧ S' = ks_sP (ks_bf S j 0 (k - 0)) j 0) (kc_q G) (kg_A G)) (kc_xx G S (fun E : String => E = kx_nse ∧ ks_row S x = false)) 1 6 (kg_A G) := by
  refine vx_ofW (cc := cX0_drop) (maxL := 3) (ret := (some .int)) (by decide) rfl ?_
  intro p e s m args below meth c s₁ B hml ht hv
  obtain ⟨rfl, hv⟩ := hv
  have hx := B.exec
  have hb := B.bytes
  have hr := B.returns
  have hlk := B.notSynchronized
  have hts := atoms_spec (ws := wX0_drop) B.pre
  have hT : ∀ w ∈ nw_T, w.before _ s = true := fun w h => hts w (List.mem_cons_of_mem _ h)
  have hown : s.vm.findClass RX0 = some m.cls := findClass_of_methodNamed B.named
  have hK : kc_K G s := hv.1.2.2
  have hX := hv.2
  have hC := kc_start hv.1
  have hl := lv_entry ([.ref (kg_h G), .int x]) (n := 3) (Nat.le_of_ble_eq_true rfl)
  rw [lg_entry_eq]
  generalize (lg_sl ([.ref (kg_h G), .int x]) ++ List.replicate (3 - (lg_sl ([.ref (kg_h G), .int x])).length) Slot.unset).toArray = ls at hl ⊢
  have hl : lv_has ls 3 [(0, .ref (kg_h G)), (1, .int x)] := hl
  refine lv_aload_n hx hb dX0_drop_0 rfl (lv_at hl 0 rfl) ?_
  refine lv_iload_n hx hb dX0_drop_1 rfl (lv_at hl 1 rfl) ?_
  refine kr_xv (As := [.int x]) (rest := []) ⟨hx, hb, hml, hown, hts⟩ (k0_requireRow l hl0 G S x hP) (cwV 1 hts gX0_55 rfl rfl rfl hX0_requireRow ⟨Nat.le_of_ble_eq_true rfl, Nat.le_of_ble_eq_true rfl⟩) hK hX hC rfl hl.1 rfl (Nat.le_of_ble_eq_true rfl) dX0_drop_2 ⟨Nat.le_of_ble_eq_true rfl, Nat.le_of_ble_eq_true rfl⟩ (fun E ce q9 H locs hpe hC hce hcv hcl => kr_out ht hlk (hpe) hC hce hcv hcl (Nat.le_of_ble_eq_true rfl) (Nat.le_of_ble_eq_true rfl)) (fun S1 H locs hp hC => ?_)
  obtain ⟨hc1, hS1⟩ := hp
  rw [hS1] at hC
  obtain ⟨j, hj, rfl, hj0⟩ := ks_row_ex hc1
  obtain ⟨k, hk⟩ : ∃ k, ks_P S j = k + 1 := ⟨ks_P S j - 1, by omega⟩
  have h33 := hP j hj
  refine lv_aload_n hx hb dX0_drop_5 rfl (lv_at hl 0 rfl) ?_
  refine lv_iload_n hx hb dX0_drop_6 rfl (lv_at hl 1 rfl) ?_
  refine lv_iconst (v := (nI 0)) hx hb dX0_drop_7 (by decide +kernel) ?_
  refine kr_ci (As := [.int (nI j), .int (nI 0)]) (rest := []) ⟨hx, hb, hml, hown, hts⟩ (k0_blankFrom l G S j 0 k hj hk (by omega) (by omega) hV) (cwV 2 hts gX0_58 rfl rfl rfl hX0_blankFrom ⟨Nat.le_of_ble_eq_true rfl, Nat.le_of_ble_eq_true rfl⟩) hK hC rfl hl.1 rfl (Nat.le_of_ble_eq_true rfl) dX0_drop_8 ⟨Nat.le_of_ble_eq_true rfl, Nat.le_of_ble_eq_true rfl⟩ (fun v S1 H locs hp hC => ?_)
  obtain ⟨rfl, hS1⟩ := hp
  rw [hS1] at hC
  refine lv_istore_n (lv' := [(2, .int (nI (kb_w S j 0 (k - 0)))), (0, .ref (kg_h G)), (1, .int (nI j))]) hx hb dX0_drop_11 rfl hl (by decide) rfl (fun ls hl => ?_)
  refine lv_aload_n hx hb dX0_drop_12 rfl (lv_at hl 1 rfl) ?_
  refine kr_get hx hb hT kx_in hown hK hC 0 (by decide) (hT _ mw_25) rfl rfl dX0_drop_13 ?_
  refine lv_iload_n hx hb dX0_drop_16 rfl (lv_at hl 2 rfl) ?_
  refine lv_iconst (v := (-1)) hx hb dX0_drop_17 (by decide +kernel) ?_
  refine kr_stP (y := 0) hx hb hK hC (by omega) rfl dX0_drop_18 (fun H locs hC => ?_)
  refine lv_iload_n hx hb dX0_drop_19 rfl (lv_at hl 0 rfl) ?_
  exact kr_xiret hx hb hr hlk hC (⟨j, k, hj, rfl, hk, rfl, rfl⟩) dX0_drop_20 (Nat.le_of_ble_eq_true rfl) (Nat.le_of_ble_eq_true rfl)
set_option maxHeartbeats 4000000 in
set_option maxRecDepth 100000 in
/-- read(x, y, z) -/
theorem k0_read (l : Launch) (hl0 : l.stackTraces = false) (G : kg_T) (S : ks_T) (x y z : Int32) (hP : ∀ r, r < 40 → ks_P S r ≤ 33) (hV : kv_c S) : vx_Met l yX0_read wX0_read ({ frames := 7, cells := 2, slots := 12, locals := 122 }) (va_Pc [.ref (kg_h G), .int x, .int y, .int z] (kc_px G S)) (va_Qi (fun (v : Int32) (S' : ks_T) => ∃ j q k, j < 40 ∧ x = nI j ∧ y = nI q ∧ q + 1 < ks_P S j ∧ q < 32 ∧ k < 8 ∧ z = nI k ∧ v = ks_C S (ks_F S j q) k ∧ S' = S) (kc_q G) (kg_A G)) (kc_xx G S (fun E : String => E = kx_nse ∧ (ks_page S x y = false ∨ ks_cell z = false))) 2 12 (kg_A G) := by
  refine vx_ofW (cc := cX0_read) (maxL := 4) (ret := (some .int)) (by decide) rfl ?_
  intro p e s m args below meth c s₁ B hml ht hv
  obtain ⟨rfl, hv⟩ := hv
  have hx := B.exec
  have hb := B.bytes
  have hr := B.returns
  have hlk := B.notSynchronized
  have hts := atoms_spec (ws := wX0_read) B.pre
  have hT : ∀ w ∈ nw_T, w.before _ s = true := fun w h => hts w (List.mem_cons_of_mem _ h)
  have hown : s.vm.findClass RX0 = some m.cls := findClass_of_methodNamed B.named
  have hK : kc_K G s := hv.1.2.2
  have hX := hv.2
  have hC := kc_start hv.1
  have hl := lv_entry ([.ref (kg_h G), .int x, .int y, .int z]) (n := 4) (Nat.le_of_ble_eq_true rfl)
  rw [lg_entry_eq]
  generalize (lg_sl ([.ref (kg_h G), .int x, .int y, .int z]) ++ List.replicate (4 - (lg_sl ([.ref (kg_h G), .int x, .int y, .int z])).length) Slot.unset).toArray = ls at hl ⊢
  have hl : lv_has ls 4 [(0, .ref (kg_h G)), (1, .int x), (2, .int y), (3, .int z)] := hl
  refine lv_aload_n hx hb dX0_read_0 rfl (lv_at hl 0 rfl) ?_
  refine lv_iload_n hx hb dX0_read_1 rfl (lv_at hl 1 rfl) ?_
  refine lv_iload_n hx hb dX0_read_2 rfl (lv_at hl 2 rfl) ?_
  refine kr_xv (As := [.int x, .int y]) (rest := []) ⟨hx, hb, hml, hown, hts⟩ (k0_requirePage l hl0 G S x y hP) (cwV 2 hts gX0_62 rfl rfl rfl hX0_requirePage ⟨Nat.le_of_ble_eq_true rfl, Nat.le_of_ble_eq_true rfl⟩) hK hX hC rfl hl.1 rfl (Nat.le_of_ble_eq_true rfl) dX0_read_3 ⟨Nat.le_of_ble_eq_true rfl, Nat.le_of_ble_eq_true rfl⟩ (fun E ce q9 H locs hpe hC hce hcv hcl => kr_out ht hlk (⟨hpe.1, Or.inl hpe.2⟩) hC hce hcv hcl (Nat.le_of_ble_eq_true rfl) (Nat.le_of_ble_eq_true rfl)) (fun S1 H locs hp hC => ?_)
  obtain ⟨hc1, hS1⟩ := hp
  rw [hS1] at hC
  obtain ⟨j, q, hj, rfl, rfl, hq, hq32⟩ := ks_page_ex hP hc1
  have hF := hV.1 j q hj hq32
  refine lv_aload_n hx hb dX0_read_6 rfl (lv_at hl 0 rfl) ?_
  refine lv_iload_n hx hb dX0_read_7 rfl (lv_at hl 3 rfl) ?_
  refine kr_xv (As := [.int z]) (rest := []) ⟨hx, hb, hml, hown, hts⟩ (k0_requireCell l hl0 G S z) (cwV 1 hts gX0_66 rfl rfl rfl hX0_requireCell ⟨Nat.le_of_ble_eq_true rfl, Nat.le_of_ble_eq_true rfl⟩) hK hX hC rfl hl.1 rfl (Nat.le_of_ble_eq_true rfl) dX0_read_8 ⟨Nat.le_of_ble_eq_true rfl, Nat.le_of_ble_eq_true rfl⟩ (fun E ce q9 H locs hpe hC hce hcv hcl => kr_out ht hlk (⟨hpe.1, Or.inr hpe.2⟩) hC hce hcv hcl (Nat.le_of_ble_eq_true rfl) (Nat.le_of_ble_eq_true rfl)) (fun S1 H locs hp hC => ?_)
  obtain ⟨hc2, hS1⟩ := hp
  rw [hS1] at hC
  obtain ⟨k, hk, rfl⟩ := ks_cell_ex hc2
  refine lv_aload_n hx hb dX0_read_11 rfl (lv_at hl 0 rfl) ?_
  refine kr_get hx hb hT kx_in hown hK hC 2 (by decide) (hT _ mw_27) rfl rfl dX0_read_12 ?_
  refine lv_aload_n hx hb dX0_read_15 rfl (lv_at hl 0 rfl) ?_
  refine kr_get hx hb hT kx_in hown hK hC 1 (by decide) (hT _ mw_26) rfl rfl dX0_read_16 ?_
  refine lv_iload_n hx hb dX0_read_19 rfl (lv_at hl 1 rfl) ?_
  refine kr_aF hx hb hK hC (by omega) dX0_read_20 ?_
  refine lv_iload_n hx hb dX0_read_21 rfl (lv_at hl 2 rfl) ?_
  refine kr_ldF hx hb hK hC (by omega) (by omega) dX0_read_22 ?_
  refine kr_aC hx hb hK hC (by omega) dX0_read_23 ?_
  refine lv_iload_n hx hb dX0_read_24 rfl (lv_at hl 3 rfl) ?_
  refine kr_ldC hx hb hK hC (by omega) (by omega) dX0_read_25 ?_
  exact kr_xiret hx hb hr hlk hC (⟨j, q, k, hj, rfl, rfl, hq, hq32, hk, rfl, rfl, rfl⟩) dX0_read_26 (Nat.le_of_ble_eq_true rfl) (Nat.le_of_ble_eq_true rfl)
set_option maxHeartbeats 4000000 in
set_option maxRecDepth 100000 in
/-- write(x, y, z, v0) -/
theorem k0_write (l : Launch) (hl0 : l.stackTraces = false) (G : kg_T) (S : ks_T) (x y z v0 : Int32) (hP : ∀ r, r < 40 → ks_P S r ≤ 33) (hV : kv_c S) : vx_Met l yX0_write wX0_write ({ frames := 8, cells := 3, slots := 18, locals := 154 }) (va_Pc [.ref (kg_h G), .int x, .int y, .int z, .int v0] (kc_px G S)) (va_Qi (fun (v : Int32) (S' : ks_T) => ∃ j q k, j < 40 ∧ x = nI j ∧ y = nI q ∧ q + 1 < ks_P S j ∧ q < 32 ∧ k < 8 ∧ z = nI k ∧ v = ks_C S (ks_F S j q) k ∧ ((ks_F S j q = 0 ∧ v0 = 0 ∧ S' = S) ∨ (¬ (ks_F S j q = 0 ∧ v0 = 0) ∧ ks_H S (ks_F S j q) = 1 ∧ S' = ks_sC S (ks_F S j q) k v0) ∨ (¬ (ks_F S j q = 0 ∧ v0 = 0) ∧ ks_H S (ks_F S j q) ≠ 1 ∧ ∃ f, 1 ≤ f ∧ f < 201 ∧ ks_H S f = 0 ∧ (∀ i, 1 ≤ i → i < f → ks_H S i ≠ 0) ∧ S' = ks_sC (ks_pt (ks_cp S (ks_F S j q) f) j q f) f k v0))) (kc_q G) (kg_A G)) (kc_xx G S (fun E : String => (E = kx_nse ∧ (ks_page S x y = false ∨ ks_cell z = false)) ∨ (E = kx_ae ∧ ks_page S x y = true ∧ ks_cell z = true ∧ (∀ j, 1 ≤ j → j < 201 → ks_H S j ≠ 0) ∧ ∃ j q, j < 40 ∧ q < 32 ∧ x = nI j ∧ y = nI q ∧ ¬ (ks_F S j q = 0 ∧ v0 = 0) ∧ ks_H S (ks_F S j q) ≠ 1))) 3 18 (kg_A G) := by
  refine vx_ofW (cc := cX0_write) (maxL := 6) (ret := (some .int)) (by decide) rfl ?_
  intro p e s m args below meth c s₁ B hml ht hv
  obtain ⟨rfl, hv⟩ := hv
  have hx := B.exec
  have hb := B.bytes
  have hr := B.returns
  have hlk := B.notSynchronized
  have hts := atoms_spec (ws := wX0_write) B.pre
  have hT : ∀ w ∈ nw_T, w.before _ s = true := fun w h => hts w (List.mem_cons_of_mem _ h)
  have hown : s.vm.findClass RX0 = some m.cls := findClass_of_methodNamed B.named
  have hK : kc_K G s := hv.1.2.2
  have hX := hv.2
  have hC := kc_start hv.1
  have hl := lv_entry ([.ref (kg_h G), .int x, .int y, .int z, .int v0]) (n := 6) (Nat.le_of_ble_eq_true rfl)
  rw [lg_entry_eq]
  generalize (lg_sl ([.ref (kg_h G), .int x, .int y, .int z, .int v0]) ++ List.replicate (6 - (lg_sl ([.ref (kg_h G), .int x, .int y, .int z, .int v0])).length) Slot.unset).toArray = ls at hl ⊢
  have hl : lv_has ls 6 [(0, .ref (kg_h G)), (1, .int x), (2, .int y), (3, .int z), (4, .int v0)] := hl
  refine lv_aload_n hx hb dX0_write_0 rfl (lv_at hl 0 rfl) ?_
  refine lv_iload_n hx hb dX0_write_1 rfl (lv_at hl 1 rfl) ?_
  refine lv_iload_n hx hb dX0_write_2 rfl (lv_at hl 2 rfl) ?_
  refine kr_xv (As := [.int x, .int y]) (rest := []) ⟨hx, hb, hml, hown, hts⟩ (k0_requirePage l hl0 G S x y hP) (cwV 2 hts gX0_62 rfl rfl rfl hX0_requirePage ⟨Nat.le_of_ble_eq_true rfl, Nat.le_of_ble_eq_true rfl⟩) hK hX hC rfl hl.1 rfl (Nat.le_of_ble_eq_true rfl) dX0_write_3 ⟨Nat.le_of_ble_eq_true rfl, Nat.le_of_ble_eq_true rfl⟩ (fun E ce q9 H locs hpe hC hce hcv hcl => kr_out ht hlk (Or.inl ⟨hpe.1, Or.inl hpe.2⟩) hC hce hcv hcl (Nat.le_of_ble_eq_true rfl) (Nat.le_of_ble_eq_true rfl)) (fun S1 H locs hp hC => ?_)
  obtain ⟨hc1, hS1⟩ := hp
  rw [hS1] at hC
  obtain ⟨jj, qq, hj, rfl, rfl, hq, hq32⟩ := ks_page_ex hP hc1
  have hF := hV.1 jj qq hj hq32
  refine lv_aload_n hx hb dX0_write_6 rfl (lv_at hl 0 rfl) ?_
  refine lv_iload_n hx hb dX0_write_7 rfl (lv_at hl 3 rfl) ?_
  refine kr_xv (As := [.int z]) (rest := []) ⟨hx, hb, hml, hown, hts⟩ (k0_requireCell l hl0 G S z) (cwV 1 hts gX0_66 rfl rfl rfl hX0_requireCell ⟨Nat.le_of_ble_eq_true rfl, Nat.le_of_ble_eq_true rfl⟩) hK hX hC rfl hl.1 rfl (Nat.le_of_ble_eq_true rfl) dX0_write_8 ⟨Nat.le_of_ble_eq_true rfl, Nat.le_of_ble_eq_true rfl⟩ (fun E ce q9 H locs hpe hC hce hcv hcl => kr_out ht hlk (Or.inl ⟨hpe.1, Or.inr hpe.2⟩) hC hce hcv hcl (Nat.le_of_ble_eq_true rfl) (Nat.le_of_ble_eq_true rfl)) (fun S1 H locs hp hC => ?_)
  obtain ⟨hc2, hS1⟩ := hp
  rw [hS1] at hC
  obtain ⟨kk, hk, rfl⟩ := ks_cell_ex hc2
  have hH := kv_le hV hF
  refine lv_aload_n hx hb dX0_write_11 rfl (lv_at hl 0 rfl) ?_
  refine kr_get hx hb hT kx_in hown hK hC 2 (by decide) (hT _ mw_27) rfl rfl dX0_write_12 ?_
  refine lv_aload_n hx hb dX0_write_15 rfl (lv_at hl 0 rfl) ?_
  refine kr_get hx hb hT kx_in hown hK hC 1 (by decide) (hT _ mw_26) rfl rfl dX0_write_16 ?_
  refine lv_iload_n hx hb dX0_write_19 rfl (lv_at hl 1 rfl) ?_
  refine kr_aF hx hb hK hC (by omega) dX0_write_20 ?_
  refine lv_iload_n hx hb dX0_write_21 rfl (lv_at hl 2 rfl) ?_
  refine kr_ldF hx hb hK hC (by omega) (by omega) dX0_write_22 ?_
  refine kr_aC hx hb hK hC (by omega) dX0_write_23 ?_
  refine lv_iload_n hx hb dX0_write_24 rfl (lv_at hl 3 rfl) ?_
  refine kr_ldC hx hb hK hC (by omega) (by omega) dX0_write_25 ?_
  refine lv_istore (lv' := [(5, .int (ks_C S (ks_F S jj qq) kk)), (0, .ref (kg_h G)), (1, .int (nI jj)), (2, .int (nI qq)), (3, .int (nI kk)), (4, .int v0)]) hx hb dX0_write_26 hl (by decide) rfl (fun ls hl => ?_)
  refine lv_aload_n hx hb dX0_write_28 rfl (lv_at hl 1 rfl) ?_
  refine kr_get hx hb hT kx_in hown hK hC 1 (by decide) (hT _ mw_26) rfl rfl dX0_write_29 ?_
  refine lv_iload_n hx hb dX0_write_32 rfl (lv_at hl 2 rfl) ?_
  refine kr_aF hx hb hK hC (by omega) dX0_write_33 ?_
  refine lv_iload_n hx hb dX0_write_34 rfl (lv_at hl 3 rfl) ?_
  refine kr_ldF hx hb hK hC (by omega) (by omega) dX0_write_35 ?_
  have hgo : ¬ (ks_F S jj qq = 0 ∧ v0 = 0) → W p l e (headSpec wX0_write ({ frames := 8, cells := 3, slots := 18, locals := 154 })).room s m [.ref (kg_h G), .int (nI jj), .int (nI qq), .int (nI kk), .int v0].toArray below meth c H locs (0 + 1 + 1) (0 + 6 + 6) (vx_MQ below (va_Qi (fun (v : Int32) (S' : ks_T) => ∃ j q k, j < 40 ∧ (nI jj) = nI j ∧ (nI qq) = nI q ∧ q + 1 < ks_P S j ∧ q < 32 ∧ k < 8 ∧ (nI kk) = nI k ∧ v = ks_C S (ks_F S j q) k ∧ ((ks_F S j q = 0 ∧ v0 = 0 ∧ S' = S) ∨ (¬ (ks_F S j q = 0 ∧ v0 = 0) ∧ ks_H S (ks_F S j q) = 1 ∧ S' = ks_sC S (ks_F S j q) k v0) ∨ (¬ (ks_F S j q = 0 ∧ v0 = 0) ∧ ks_H S (ks_F S j q) ≠ 1 ∧ ∃ f, 1 ≤ f ∧ f < 201 ∧ ks_H S f = 0 ∧ (∀ i, 1 ≤ i → i < f → ks_H S i ≠ 0) ∧ S' = ks_sC (ks_pt (ks_cp S (ks_F S j q) f) j q f) f k v0))) (kc_q G) (kg_A G)) (kc_xx G S (fun E : String => (E = kx_nse ∧ (ks_page S (nI jj) (nI qq) = false ∨ ks_cell (nI kk) = false)) ∨ (E = kx_ae ∧ ks_page S (nI jj) (nI qq) = true ∧ ks_cell (nI kk) = true ∧ (∀ j, 1 ≤ j → j < 201 → ks_H S j ≠ 0) ∧ ∃ j q, j < 40 ∧ q < 32 ∧ (nI jj) = nI j ∧ (nI qq) = nI q ∧ ¬ (ks_F S j q = 0 ∧ v0 = 0) ∧ ks_H S (ks_F S j q) ≠ 1))) [.ref (kg_h G), .int (nI jj), .int (nI qq), .int (nI kk), .int v0].toArray s 3 18 (kg_A G)) (F0 m 47 ls []) := by
    intro hne
    refine lv_aload_n hx hb dX0_write_47 rfl (lv_at hl 1 rfl) ?_
    refine lv_iload_n hx hb dX0_write_48 rfl (lv_at hl 2 rfl) ?_
    refine lv_iload_n hx hb dX0_write_49 rfl (lv_at hl 3 rfl) ?_
    refine kr_ci (As := [.int (nI jj), .int (nI qq)]) (rest := []) ⟨hx, hb, hml, hown, hts⟩ (k0_hasFrameAlone l G S jj qq hj hq32 hF hH) (cwV 2 hts gX0_69 rfl rfl rfl hX0_hasFrameAlone ⟨Nat.le_of_ble_eq_true rfl, Nat.le_of_ble_eq_true rfl⟩) hK hC rfl hl.1 rfl (Nat.le_of_ble_eq_true rfl) dX0_write_50 ⟨Nat.le_of_ble_eq_true rfl, Nat.le_of_ble_eq_true rfl⟩ (fun v S1 H locs hp hC => ?_)
    obtain ⟨hv1, hS1⟩ := hp
    rw [hS1] at hC
    refine lv_if_ne (tgt := 62) hx hb dX0_write_53 rfl (fun h3 => ?_) (fun h3 => ?_)
    · have h4 : ks_H S (ks_F S jj qq) = 1 := by
        by_cases h : ks_H S (ks_F S jj qq) = 1
        · exact h
        · rw [hv1, if_neg h] at h3; exact absurd rfl h3
      refine lv_aload_n hx hb dX0_write_62 rfl (lv_at hl 1 rfl) ?_
      refine kr_get hx hb hT kx_in hown hK hC 2 (by decide) (hT _ mw_27) rfl rfl dX0_write_63 ?_
      refine lv_aload_n hx hb dX0_write_66 rfl (lv_at hl 1 rfl) ?_
      refine kr_get hx hb hT kx_in hown hK hC 1 (by decide) (hT _ mw_26) rfl rfl dX0_write_67 ?_
      refine lv_iload_n hx hb dX0_write_70 rfl (lv_at hl 2 rfl) ?_
      refine kr_aF hx hb hK hC (by omega) dX0_write_71 ?_
      refine lv_iload_n hx hb dX0_write_72 rfl (lv_at hl 3 rfl) ?_
      refine kr_ldF hx hb hK hC (by omega) (by omega) dX0_write_73 ?_
      refine kr_aC hx hb hK hC (by omega) dX0_write_74 ?_
      refine lv_iload_n hx hb dX0_write_75 rfl (lv_at hl 4 rfl) ?_
      refine lv_iload hx hb dX0_write_76 (lv_at hl 5 rfl) ?_
      refine kr_stC hx hb hK hC (by omega) (by omega) dX0_write_78 (fun H locs hC => ?_)
      refine lv_iload hx hb dX0_write_79 (lv_at hl 0 rfl) ?_
      exact kr_xiret hx hb hr hlk hC (⟨jj, qq, kk, hj, rfl, rfl, hq, hq32, hk, rfl, rfl, Or.inr (Or.inl ⟨hne, h4, rfl⟩)⟩) dX0_write_81 (Nat.le_of_ble_eq_true rfl) (Nat.le_of_ble_eq_true rfl)
    · have h4 : ks_H S (ks_F S jj qq) ≠ 1 := by
        intro h
        rw [hv1, if_pos h] at h3; exact absurd h3 (by decide)
      refine lv_aload_n hx hb dX0_write_56 rfl (lv_at hl 1 rfl) ?_
      refine lv_iload_n hx hb dX0_write_57 rfl (lv_at hl 2 rfl) ?_
      refine lv_iload_n hx hb dX0_write_58 rfl (lv_at hl 3 rfl) ?_
      refine kr_xv (As := [.int (nI jj), .int (nI qq)]) (rest := []) ⟨hx, hb, hml, hown, hts⟩ (k0_giveNewFrame l hl0 G S jj qq hj hq32 hV) (cwV 2 hts gX0_73 rfl rfl rfl hX0_giveNewFrame ⟨Nat.le_of_ble_eq_true rfl, Nat.le_of_ble_eq_true rfl⟩) hK hX hC rfl hl.1 rfl (Nat.le_of_ble_eq_true rfl) dX0_write_59 ⟨Nat.le_of_ble_eq_true rfl, Nat.le_of_ble_eq_true rfl⟩ (fun E ce q9 H locs hpe hC hce hcv hcl => kr_out ht hlk (Or.inr ⟨hpe.1, hc1, hc2, hpe.2, jj, qq, hj, hq32, rfl, rfl, hne, h4⟩) hC hce hcv hcl (Nat.le_of_ble_eq_true rfl) (Nat.le_of_ble_eq_true rfl)) (fun S1 H locs hp hC => ?_)
      obtain ⟨f, hf1, hf, hf0, hfm, hS1⟩ := hp
      rw [hS1] at hC
      have ef : ks_F (ks_pt (ks_cp S (ks_F S jj qq) f) jj qq f) jj qq = f := cn_u_s _ _ _ _
      refine lv_aload_n hx hb dX0_write_62 rfl (lv_at hl 1 rfl) ?_
      refine kr_get hx hb hT kx_in hown hK hC 2 (by decide) (hT _ mw_27) rfl rfl dX0_write_63 ?_
      refine lv_aload_n hx hb dX0_write_66 rfl (lv_at hl 1 rfl) ?_
      refine kr_get hx hb hT kx_in hown hK hC 1 (by decide) (hT _ mw_26) rfl rfl dX0_write_67 ?_
      refine lv_iload_n hx hb dX0_write_70 rfl (lv_at hl 2 rfl) ?_
      refine kr_aF hx hb hK hC (by omega) dX0_write_71 ?_
      refine lv_iload_n hx hb dX0_write_72 rfl (lv_at hl 3 rfl) ?_
      refine kr_ldF hx hb hK hC (by omega) (by omega) dX0_write_73 ?_
      rw [ef]
      refine kr_aC hx hb hK hC (by omega) dX0_write_74 ?_
      refine lv_iload_n hx hb dX0_write_75 rfl (lv_at hl 4 rfl) ?_
      refine lv_iload hx hb dX0_write_76 (lv_at hl 5 rfl) ?_
      refine kr_stC hx hb hK hC (by omega) (by omega) dX0_write_78 (fun H locs hC => ?_)
      refine lv_iload hx hb dX0_write_79 (lv_at hl 0 rfl) ?_
      exact kr_xiret hx hb hr hlk hC (⟨jj, qq, kk, hj, rfl, rfl, hq, hq32, hk, rfl, rfl, Or.inr (Or.inr ⟨hne, h4, f, hf1, hf, hf0, hfm, rfl⟩)⟩) dX0_write_81 (Nat.le_of_ble_eq_true rfl) (Nat.le_of_ble_eq_true rfl)
  refine wn_if1 (tgt := 47) hx hb (by omega) dX0_write_36 rfl (fun h1 => ?_) (fun h1 => ?_)
  · exact hgo (fun h => h1 h.1)
  · refine lv_iload hx hb dX0_write_39 (lv_at hl 5 rfl) ?_
    refine lv_if_ne (tgt := 47) hx hb dX0_write_41 rfl (fun h2 => ?_) (fun h2 => ?_)
    · exact hgo (fun h => h2 h.2)
    · refine lv_iload hx hb dX0_write_44 (lv_at hl 0 rfl) ?_
      exact kr_xiret hx hb hr hlk hC (⟨jj, qq, kk, hj, rfl, rfl, hq, hq32, hk, rfl, rfl, Or.inl ⟨h1, h2, rfl⟩⟩) dX0_write_46 (Nat.le_of_ble_eq_true rfl) (Nat.le_of_ble_eq_true rfl)
set_option maxHeartbeats 4000000 in
set_option maxRecDepth 100000 in
/-- size(x, y) -/
theorem k0_size (l : Launch) (hl0 : l.stackTraces = false) (G : kg_T) (S : ks_T) (x y : Int32) (hP : ∀ r, r < 40 → ks_P S r ≤ 33) (hV : kv_c S) : vx_Met l yX0_size wX0_size ({ frames := 7, cells := 2, slots := 12, locals := 122 }) (va_Pc [.ref (kg_h G), .int x, .int y] (kc_px G S)) (va_Qi (fun (v : Int32) (S' : ks_T) => ∃ j k b, j < 40 ∧ x = nI j ∧ ks_P S j = k + 1 ∧ b ≤ 32 ∧ y = nI b ∧ v = nI k ∧ S' = ks_sP (ks_bf S j b (k - b)) j (b + 1)) (kc_q G) (kg_A G)) (kc_xx G S (fun E : String => (E = kx_nse ∧ ks_row S x = false) ∨ (E = kx_iae ∧ ks_row S x = true ∧ ks_cnt y = false))) 2 12 (kg_A G) := by
  refine vx_ofW (cc := cX0_size) (maxL := 4) (ret := (some .int)) (by decide) rfl ?_
  intro p e s m args below meth c s₁ B hml ht hv
  obtain ⟨rfl, hv⟩ := hv
  have hx := B.exec
  have hb := B.bytes
  have hr := B.returns
  have hlk := B.notSynchronized
  have hts := atoms_spec (ws := wX0_size) B.pre
  have hT : ∀ w ∈ nw_T, w.before _ s = true := fun w h => hts w (List.mem_cons_of_mem _ h)
  have hown : s.vm.findClass RX0 = some m.cls := findClass_of_methodNamed B.named
  have hK : kc_K G s := hv.1.2.2
  have hX := hv.2
  have hC := kc_start hv.1
  have hl := lv_entry ([.ref (kg_h G), .int x, .int y]) (n := 4) (Nat.le_of_ble_eq_true rfl)
  rw [lg_entry_eq]
  generalize (lg_sl ([.ref (kg_h G), .int x, .int y]) ++ List.replicate (4 - (lg_sl ([.ref (kg_h G), .int x, .int y])).length) Slot.unset).toArray = ls at hl ⊢
  have hl : lv_has ls 4 [(0, .ref (kg_h G)), (1, .int x), (2, .int y)] := hl
  refine lv_aload_n hx hb dX0_size_0 rfl (lv_at hl 0 rfl) ?_
  refine lv_iload_n hx hb dX0_size_1 rfl (lv_at hl 1 rfl) ?_
  refine kr_xv (As := [.int x]) (rest := []) ⟨hx, hb, hml, hown, hts⟩ (k0_requireRow l hl0 G S x hP) (cwV 1 hts gX0_55 rfl rfl rfl hX0_requireRow ⟨Nat.le_of_ble_eq_true rfl, Nat.le_of_ble_eq_true rfl⟩) hK hX hC rfl hl.1 rfl (Nat.le_of_ble_eq_true rfl) dX0_size_2 ⟨Nat.le_of_ble_eq_true rfl, Nat.le_of_ble_eq_true rfl⟩ (fun E ce q9 H locs hpe hC hce hcv hcl => kr_out ht hlk (Or.inl hpe) hC hce hcv hcl (Nat.le_of_ble_eq_true rfl) (Nat.le_of_ble_eq_true rfl)) (fun S1 H locs hp hC => ?_)
  obtain ⟨hc1, hS1⟩ := hp
  rw [hS1] at hC
  obtain ⟨j, hj, rfl, hj0⟩ := ks_row_ex hc1
  obtain ⟨k, hk⟩ : ∃ k, ks_P S j = k + 1 := ⟨ks_P S j - 1, by omega⟩
  have h33 := hP j hj
  refine lv_aload_n hx hb dX0_size_5 rfl (lv_at hl 0 rfl) ?_
  refine lv_iload_n hx hb dX0_size_6 rfl (lv_at hl 2 rfl) ?_
  refine kr_xv (As := [.int y]) (rest := []) ⟨hx, hb, hml, hown, hts⟩ (k0_requirePageCount l hl0 G S y) (cwV 1 hts gX0_39 rfl rfl rfl hX0_requirePageCount ⟨Nat.le_of_ble_eq_true rfl, Nat.le_of_ble_eq_true rfl⟩) hK hX hC rfl hl.1 rfl (Nat.le_of_ble_eq_true rfl) dX0_size_7 ⟨Nat.le_of_ble_eq_true rfl, Nat.le_of_ble_eq_true rfl⟩ (fun E ce q9 H locs hpe hC hce hcv hcl => kr_out ht hlk (Or.inr ⟨hpe.1, hc1, hpe.2⟩) hC hce hcv hcl (Nat.le_of_ble_eq_true rfl) (Nat.le_of_ble_eq_true rfl)) (fun S1 H locs hp hC => ?_)
  obtain ⟨hc2, hS1⟩ := hp
  rw [hS1] at hC
  obtain ⟨b, hb32, rfl⟩ := ks_cnt_ex hc2
  have ek : ks_e (ks_P S j) = nI k := by rw [ks_es (by omega), hk]; rfl
  refine lv_aload_n hx hb dX0_size_10 rfl (lv_at hl 0 rfl) ?_
  refine kr_get hx hb hT kx_in hown hK hC 0 (by decide) (hT _ mw_25) rfl rfl dX0_size_11 ?_
  refine lv_iload_n hx hb dX0_size_14 rfl (lv_at hl 1 rfl) ?_
  refine kr_ldP hx hb hK hC (by omega) dX0_size_15 ?_
  rw [ek]
  refine lv_istore_n (lv' := [(3, .int (nI k)), (0, .ref (kg_h G)), (1, .int (nI j)), (2, .int (nI b))]) hx hb dX0_size_16 rfl hl (by decide) rfl (fun ls hl => ?_)
  refine lv_aload_n hx hb dX0_size_17 rfl (lv_at hl 1 rfl) ?_
  refine lv_iload_n hx hb dX0_size_18 rfl (lv_at hl 2 rfl) ?_
  refine lv_iload_n hx hb dX0_size_19 rfl (lv_at hl 3 rfl) ?_
  refine kr_ci (As := [.int (nI j), .int (nI b)]) (rest := []) ⟨hx, hb, hml, hown, hts⟩ (k0_blankFrom l G S j b k hj hk (by omega) hb32 hV) (cwV 2 hts gX0_58 rfl rfl rfl hX0_blankFrom ⟨Nat.le_of_ble_eq_true rfl, Nat.le_of_ble_eq_true rfl⟩) hK hC rfl hl.1 rfl (Nat.le_of_ble_eq_true rfl) dX0_size_20 ⟨Nat.le_of_ble_eq_true rfl, Nat.le_of_ble_eq_true rfl⟩ (fun v S1 H locs hp hC => ?_)
  obtain ⟨hv1, hS1⟩ := hp
  rw [hS1] at hC
  refine lv_pop hx hb dX0_size_23 rfl ?_
  refine lv_aload_n hx hb dX0_size_24 rfl (lv_at hl 1 rfl) ?_
  refine kr_get hx hb hT kx_in hown hK hC 0 (by decide) (hT _ mw_25) rfl rfl dX0_size_25 ?_
  refine lv_iload_n hx hb dX0_size_28 rfl (lv_at hl 2 rfl) ?_
  refine lv_iload_n hx hb dX0_size_29 rfl (lv_at hl 3 rfl) ?_
  refine kr_stP (y := b + 1) hx hb hK hC (by omega) rfl dX0_size_30 (fun H locs hC => ?_)
  refine lv_iload_n hx hb dX0_size_31 rfl (lv_at hl 0 rfl) ?_
  exact kr_xiret hx hb hr hlk hC (⟨j, k, b, hj, rfl, hk, hb32, rfl, rfl, rfl⟩) dX0_size_32 (Nat.le_of_ble_eq_true rfl) (Nat.le_of_ble_eq_true rfl)
set_option maxHeartbeats 4000000 in
set_option maxRecDepth 100000 in
/-- blank(x, y) -/
theorem k0_blank (l : Launch) (hl0 : l.stackTraces = false) (G : kg_T) (S : ks_T) (x y : Int32) (hP : ∀ r, r < 40 → ks_P S r ≤ 33) (hV : kv_c S) : vx_Met l yX0_blank wX0_blank ({ frames := 7, cells := 1, slots := 6, locals := 122 }) (va_Pc [.ref (kg_h G), .int x, .int y] (kc_px G S)) (va_Qi (fun (v : Int32) (S' : ks_T) => ∃ j q, j < 40 ∧ x = nI j ∧ y = nI q ∧ q + 1 < ks_P S j ∧ q < 32 ∧ v = nI (if ks_F S j q = 0 then 0 else 1) ∧ S' = ks_pt S j q 0) (kc_q G) (kg_A G)) (kc_xx G S (fun E : String => E = kx_nse ∧ ks_page S x y = false)) 1 6 (kg_A G) := by
  refine vx_ofW (cc := cX0_blank) (maxL := 4) (ret := (some .boolean)) (by decide) rfl ?_
  intro p e s m args below meth c s₁ B hml ht hv
  obtain ⟨rfl, hv⟩ := hv
  have hx := B.exec
  have hb := B.bytes
  have hr := B.returns
  have hlk := B.notSynchronized
  have hts := atoms_spec (ws := wX0_blank) B.pre
  have hT : ∀ w ∈ nw_T, w.before _ s = true := fun w h => hts w (List.mem_cons_of_mem _ h)
  have hown : s.vm.findClass RX0 = some m.cls := findClass_of_methodNamed B.named
  have hK : kc_K G s := hv.1.2.2
  have hX := hv.2
  have hC := kc_start hv.1
  have hl := lv_entry ([.ref (kg_h G), .int x, .int y]) (n := 4) (Nat.le_of_ble_eq_true rfl)
  rw [lg_entry_eq]
  generalize (lg_sl ([.ref (kg_h G), .int x, .int y]) ++ List.replicate (4 - (lg_sl ([.ref (kg_h G), .int x, .int y])).length) Slot.unset).toArray = ls at hl ⊢
  have hl : lv_has ls 4 [(0, .ref (kg_h G)), (1, .int x), (2, .int y)] := hl
  refine lv_aload_n hx hb dX0_blank_0 rfl (lv_at hl 0 rfl) ?_
  refine lv_iload_n hx hb dX0_blank_1 rfl (lv_at hl 1 rfl) ?_
  refine lv_iload_n hx hb dX0_blank_2 rfl (lv_at hl 2 rfl) ?_
  refine kr_xv (As := [.int x, .int y]) (rest := []) ⟨hx, hb, hml, hown, hts⟩ (k0_requirePage l hl0 G S x y hP) (cwV 2 hts gX0_62 rfl rfl rfl hX0_requirePage ⟨Nat.le_of_ble_eq_true rfl, Nat.le_of_ble_eq_true rfl⟩) hK hX hC rfl hl.1 rfl (Nat.le_of_ble_eq_true rfl) dX0_blank_3 ⟨Nat.le_of_ble_eq_true rfl, Nat.le_of_ble_eq_true rfl⟩ (fun E ce q9 H locs hpe hC hce hcv hcl => kr_out ht hlk (hpe) hC hce hcv hcl (Nat.le_of_ble_eq_true rfl) (Nat.le_of_ble_eq_true rfl)) (fun S1 H locs hp hC => ?_)
  obtain ⟨hc1, hS1⟩ := hp
  rw [hS1] at hC
  obtain ⟨j, q, hj, rfl, rfl, hq, hq32⟩ := ks_page_ex hP hc1
  have hF := hV.1 j q hj hq32
  refine lv_aload_n hx hb dX0_blank_6 rfl (lv_at hl 0 rfl) ?_
  refine kr_get hx hb hT kx_in hown hK hC 1 (by decide) (hT _ mw_26) rfl rfl dX0_blank_7 ?_
  refine lv_iload_n hx hb dX0_blank_10 rfl (lv_at hl 1 rfl) ?_
  refine kr_aF hx hb hK hC (by omega) dX0_blank_11 ?_
  refine lv_iload_n hx hb dX0_blank_12 rfl (lv_at hl 2 rfl) ?_
  refine kr_ldF hx hb hK hC (by omega) (by omega) dX0_blank_13 ?_
  refine wn_if0 (tgt := 21) hx hb (by omega) dX0_blank_14 rfl (fun h3 => ?_) (fun h3 => ?_)
  · refine lv_iconst (v := (nI 0)) hx hb dX0_blank_21 (by decide +kernel) ?_
    refine lv_istore_n (lv' := [(3, .int (nI 0)), (0, .ref (kg_h G)), (1, .int (nI j)), (2, .int (nI q))]) hx hb dX0_blank_22 rfl hl (by decide) rfl (fun ls hl => ?_)
    refine lv_aload_n hx hb dX0_blank_23 rfl (lv_at hl 1 rfl) ?_
    refine lv_iload_n hx hb dX0_blank_24 rfl (lv_at hl 2 rfl) ?_
    refine lv_iload_n hx hb dX0_blank_25 rfl (lv_at hl 3 rfl) ?_
    refine lv_iconst (v := (nI 0)) hx hb dX0_blank_26 (by decide +kernel) ?_
    refine kr_ci (As := [.int (nI j), .int (nI q), .int (nI 0)]) (rest := []) ⟨hx, hb, hml, hown, hts⟩ (k0_pointTo l G S j q 0 hj hq32 (by omega) hF (kv_h1 hV 0 hj hq32) (kv_h2 hV 0 hj hq32)) (cwV 3 hts gX0_51 rfl rfl rfl hX0_pointTo ⟨Nat.le_of_ble_eq_true rfl, Nat.le_of_ble_eq_true rfl⟩) hK hC rfl hl.1 rfl (Nat.le_of_ble_eq_true rfl) dX0_blank_27 ⟨Nat.le_of_ble_eq_true rfl, Nat.le_of_ble_eq_true rfl⟩ (fun v S1 H locs hp hC => ?_)
    obtain ⟨hv1, hS1⟩ := hp
    rw [hS1] at hC
    refine lv_pop hx hb dX0_blank_30 rfl ?_
    refine lv_iload_n hx hb dX0_blank_31 rfl (lv_at hl 0 rfl) ?_
    exact kr_xzret hx hb hr hlk hC (by decide +kernel) (⟨j, q, hj, rfl, rfl, hq, hq32, by rw [if_pos h3], rfl⟩) dX0_blank_32 (Nat.le_of_ble_eq_true rfl) (Nat.le_of_ble_eq_true rfl)
  · refine lv_iconst (v := (nI 1)) hx hb dX0_blank_17 (by decide +kernel) ?_
    refine lv_goto (tgt := 22) hx hb dX0_blank_18 rfl ?_
    refine lv_istore_n (lv' := [(3, .int (nI 1)), (0, .ref (kg_h G)), (1, .int (nI j)), (2, .int (nI q))]) hx hb dX0_blank_22 rfl hl (by decide) rfl (fun ls hl => ?_)
    refine lv_aload_n hx hb dX0_blank_23 rfl (lv_at hl 1 rfl) ?_
    refine lv_iload_n hx hb dX0_blank_24 rfl (lv_at hl 2 rfl) ?_
    refine lv_iload_n hx hb dX0_blank_25 rfl (lv_at hl 3 rfl) ?_
    refine lv_iconst (v := (nI 0)) hx hb dX0_blank_26 (by decide +kernel) ?_
    refine kr_ci (As := [.int (nI j), .int (nI q), .int (nI 0)]) (rest := []) ⟨hx, hb, hml, hown, hts⟩ (k0_pointTo l G S j q 0 hj hq32 (by omega) hF (kv_h1 hV 0 hj hq32) (kv_h2 hV 0 hj hq32)) (cwV 3 hts gX0_51 rfl rfl rfl hX0_pointTo ⟨Nat.le_of_ble_eq_true rfl, Nat.le_of_ble_eq_true rfl⟩) hK hC rfl hl.1 rfl (Nat.le_of_ble_eq_true rfl) dX0_blank_27 ⟨Nat.le_of_ble_eq_true rfl, Nat.le_of_ble_eq_true rfl⟩ (fun v S1 H locs hp hC => ?_)
    obtain ⟨hv1, hS1⟩ := hp
    rw [hS1] at hC
    refine lv_pop hx hb dX0_blank_30 rfl ?_
    refine lv_iload_n hx hb dX0_blank_31 rfl (lv_at hl 0 rfl) ?_
    exact kr_xzret hx hb hr hlk hC (by decide +kernel) (⟨j, q, hj, rfl, rfl, hq, hq32, by rw [if_neg h3], rfl⟩) dX0_blank_32 (Nat.le_of_ble_eq_true rfl) (Nat.le_of_ble_eq_true rfl)
set_option maxHeartbeats 4000000 in
set_option maxRecDepth 100000 in
/-- own(x, y) -/
theorem k0_own (l : Launch) (hl0 : l.stackTraces = false) (G : kg_T) (S : ks_T) (x y : Int32) (hP : ∀ r, r < 40 → ks_P S r ≤ 33) (hV : kv_c S) : vx_Met l yX0_own wX0_own ({ frames := 8, cells := 2, slots := 12, locals := 154 }) (va_Pc [.ref (kg_h G), .int x, .int y] (kc_px G S)) (va_Qi (fun (v : Int32) (S' : ks_T) => ∃ j q, j < 40 ∧ x = nI j ∧ y = nI q ∧ q + 1 < ks_P S j ∧ q < 32 ∧ ((ks_H S (ks_F S j q) = 1 ∧ v = nI 0 ∧ S' = S) ∨ (ks_H S (ks_F S j q) ≠ 1 ∧ v = nI 1 ∧ ∃ f, 1 ≤ f ∧ f < 201 ∧ ks_H S f = 0 ∧ (∀ i, 1 ≤ i → i < f → ks_H S i ≠ 0) ∧ S' = ks_pt (ks_cp S (ks_F S j q) f) j q f))) (kc_q G) (kg_A G)) (kc_xx G S (fun E : String => (E = kx_nse ∧ ks_page S x y = false) ∨ (E = kx_ae ∧ ks_page S x y = true ∧ (∀ j, 1 ≤ j → j < 201 → ks_H S j ≠ 0) ∧ ∃ j q, j < 40 ∧ q < 32 ∧ x = nI j ∧ y = nI q ∧ ks_H S (ks_F S j q) ≠ 1))) 2 12 (kg_A G) := by
  refine vx_ofW (cc := cX0_own) (maxL := 3) (ret := (some .boolean)) (by decide) rfl ?_
  intro p e s m args below meth c s₁ B hml ht hv
  obtain ⟨rfl, hv⟩ := hv
  have hx := B.exec
  have hb := B.bytes
  have hr := B.returns
  have hlk := B.notSynchronized
  have hts := atoms_spec (ws := wX0_own) B.pre
  have hT : ∀ w ∈ nw_T, w.before _ s = true := fun w h => hts w (List.mem_cons_of_mem _ h)
  have hown : s.vm.findClass RX0 = some m.cls := findClass_of_methodNamed B.named
  have hK : kc_K G s := hv.1.2.2
  have hX := hv.2
  have hC := kc_start hv.1
  have hl := lv_entry ([.ref (kg_h G), .int x, .int y]) (n := 3) (Nat.le_of_ble_eq_true rfl)
  rw [lg_entry_eq]
  generalize (lg_sl ([.ref (kg_h G), .int x, .int y]) ++ List.replicate (3 - (lg_sl ([.ref (kg_h G), .int x, .int y])).length) Slot.unset).toArray = ls at hl ⊢
  have hl : lv_has ls 3 [(0, .ref (kg_h G)), (1, .int x), (2, .int y)] := hl
  refine lv_aload_n hx hb dX0_own_0 rfl (lv_at hl 0 rfl) ?_
  refine lv_iload_n hx hb dX0_own_1 rfl (lv_at hl 1 rfl) ?_
  refine lv_iload_n hx hb dX0_own_2 rfl (lv_at hl 2 rfl) ?_
  refine kr_xv (As := [.int x, .int y]) (rest := []) ⟨hx, hb, hml, hown, hts⟩ (k0_requirePage l hl0 G S x y hP) (cwV 2 hts gX0_62 rfl rfl rfl hX0_requirePage ⟨Nat.le_of_ble_eq_true rfl, Nat.le_of_ble_eq_true rfl⟩) hK hX hC rfl hl.1 rfl (Nat.le_of_ble_eq_true rfl) dX0_own_3 ⟨Nat.le_of_ble_eq_true rfl, Nat.le_of_ble_eq_true rfl⟩ (fun E ce q9 H locs hpe hC hce hcv hcl => kr_out ht hlk (Or.inl hpe) hC hce hcv hcl (Nat.le_of_ble_eq_true rfl) (Nat.le_of_ble_eq_true rfl)) (fun S1 H locs hp hC => ?_)
  obtain ⟨hc1, hS1⟩ := hp
  rw [hS1] at hC
  obtain ⟨j, q, hj, rfl, rfl, hq, hq32⟩ := ks_page_ex hP hc1
  have hF := hV.1 j q hj hq32
  have hH := kv_le hV hF
  refine lv_aload_n hx hb dX0_own_6 rfl (lv_at hl 0 rfl) ?_
  refine lv_iload_n hx hb dX0_own_7 rfl (lv_at hl 1 rfl) ?_
  refine lv_iload_n hx hb dX0_own_8 rfl (lv_at hl 2 rfl) ?_
  refine kr_ci (As := [.int (nI j), .int (nI q)]) (rest := []) ⟨hx, hb, hml, hown, hts⟩ (k0_hasFrameAlone l G S j q hj hq32 hF hH) (cwV 2 hts gX0_69 rfl rfl rfl hX0_hasFrameAlone ⟨Nat.le_of_ble_eq_true rfl, Nat.le_of_ble_eq_true rfl⟩) hK hC rfl hl.1 rfl (Nat.le_of_ble_eq_true rfl) dX0_own_9 ⟨Nat.le_of_ble_eq_true rfl, Nat.le_of_ble_eq_true rfl⟩ (fun v S1 H locs hp hC => ?_)
  obtain ⟨hv1, hS1⟩ := hp
  rw [hS1] at hC
  refine lv_if_eq (tgt := 17) hx hb dX0_own_12 rfl (fun h3 => ?_) (fun h3 => ?_)
  · have h4 : ks_H S (ks_F S j q) ≠ 1 := by
      intro h
      rw [hv1, if_pos h] at h3; exact absurd h3 (by decide)
    refine lv_aload_n hx hb dX0_own_17 rfl (lv_at hl 0 rfl) ?_
    refine lv_iload_n hx hb dX0_own_18 rfl (lv_at hl 1 rfl) ?_
    refine lv_iload_n hx hb dX0_own_19 rfl (lv_at hl 2 rfl) ?_
    refine kr_xv (As := [.int (nI j), .int (nI q)]) (rest := []) ⟨hx, hb, hml, hown, hts⟩ (k0_giveNewFrame l hl0 G S j q hj hq32 hV) (cwV 2 hts gX0_73 rfl rfl rfl hX0_giveNewFrame ⟨Nat.le_of_ble_eq_true rfl, Nat.le_of_ble_eq_true rfl⟩) hK hX hC rfl hl.1 rfl (Nat.le_of_ble_eq_true rfl) dX0_own_20 ⟨Nat.le_of_ble_eq_true rfl, Nat.le_of_ble_eq_true rfl⟩ (fun E ce q9 H locs hpe hC hce hcv hcl => kr_out ht hlk (Or.inr ⟨hpe.1, hc1, hpe.2, j, q, hj, hq32, rfl, rfl, h4⟩) hC hce hcv hcl (Nat.le_of_ble_eq_true rfl) (Nat.le_of_ble_eq_true rfl)) (fun S1 H locs hp hC => ?_)
    obtain ⟨f, hf1, hf, hf0, hfm, hS1⟩ := hp
    rw [hS1] at hC
    refine lv_iconst (v := (nI 1)) hx hb dX0_own_23 (by decide +kernel) ?_
    exact kr_xzret hx hb hr hlk hC (by decide +kernel) (⟨j, q, hj, rfl, rfl, hq, hq32, Or.inr ⟨h4, rfl, f, hf1, hf, hf0, hfm, rfl⟩⟩) dX0_own_24 (Nat.le_of_ble_eq_true rfl) (Nat.le_of_ble_eq_true rfl)
  · have h4 : ks_H S (ks_F S j q) = 1 := by
      by_cases h : ks_H S (ks_F S j q) = 1
      · exact h
      · rw [hv1, if_neg h] at h3; exact absurd rfl h3
    refine lv_iconst (v := (nI 0)) hx hb dX0_own_15 (by decide +kernel) ?_
    exact kr_xzret hx hb hr hlk hC (by decide +kernel) (⟨j, q, hj, rfl, rfl, hq, hq32, Or.inl ⟨h4, rfl, rfl⟩⟩) dX0_own_16 (Nat.le_of_ble_eq_true rfl) (Nat.le_of_ble_eq_true rfl)
set_option maxHeartbeats 4000000 in
set_option maxRecDepth 100000 in
/-- common(x, y, x2, y2) -/
theorem k0_common (l : Launch) (hl0 : l.stackTraces = false) (G : kg_T) (S : ks_T) (x y x2 y2 : Int32) (hP : ∀ r, r < 40 → ks_P S r ≤ 33) (hV : kv_c S) : vx_Met l yX0_common wX0_common ({ frames := 7, cells := 2, slots := 12, locals := 122 }) (va_Pc [.ref (kg_h G), .int x, .int y, .int x2, .int y2] (kc_px G S)) (va_Qi (fun (v : Int32) (S' : ks_T) => ∃ j q j2 q2, j < 40 ∧ x = nI j ∧ y = nI q ∧ q + 1 < ks_P S j ∧ q < 32 ∧ j2 < 40 ∧ x2 = nI j2 ∧ y2 = nI q2 ∧ q2 + 1 < ks_P S j2 ∧ q2 < 32 ∧ v = nI (if ks_F S j q ≠ 0 ∧ ks_F S j q = ks_F S j2 q2 then 1 else 0) ∧ S' = S) (kc_q G) (kg_A G)) (kc_xx G S (fun E : String => E = kx_nse ∧ (ks_page S x y = false ∨ ks_page S x2 y2 = false))) 2 12 (kg_A G) := by
  refine vx_ofW (cc := cX0_common) (maxL := 5) (ret := (some .boolean)) (by decide) rfl ?_
  intro p e s m args below meth c s₁ B hml ht hv
  obtain ⟨rfl, hv⟩ := hv
  have hx := B.exec
  have hb := B.bytes
  have hr := B.returns
  have hlk := B.notSynchronized
  have hts := atoms_spec (ws := wX0_common) B.pre
  have hT : ∀ w ∈ nw_T, w.before _ s = true := fun w h => hts w (List.mem_cons_of_mem _ h)
  have hown : s.vm.findClass RX0 = some m.cls := findClass_of_methodNamed B.named
  have hK : kc_K G s := hv.1.2.2
  have hX := hv.2
  have hC := kc_start hv.1
  have hl := lv_entry ([.ref (kg_h G), .int x, .int y, .int x2, .int y2]) (n := 5) (Nat.le_of_ble_eq_true rfl)
  rw [lg_entry_eq]
  generalize (lg_sl ([.ref (kg_h G), .int x, .int y, .int x2, .int y2]) ++ List.replicate (5 - (lg_sl ([.ref (kg_h G), .int x, .int y, .int x2, .int y2])).length) Slot.unset).toArray = ls at hl ⊢
  have hl : lv_has ls 5 [(0, .ref (kg_h G)), (1, .int x), (2, .int y), (3, .int x2), (4, .int y2)] := hl
  refine lv_aload_n hx hb dX0_common_0 rfl (lv_at hl 0 rfl) ?_
  refine lv_iload_n hx hb dX0_common_1 rfl (lv_at hl 1 rfl) ?_
  refine lv_iload_n hx hb dX0_common_2 rfl (lv_at hl 2 rfl) ?_
  refine kr_xv (As := [.int x, .int y]) (rest := []) ⟨hx, hb, hml, hown, hts⟩ (k0_requirePage l hl0 G S x y hP) (cwV 2 hts gX0_62 rfl rfl rfl hX0_requirePage ⟨Nat.le_of_ble_eq_true rfl, Nat.le_of_ble_eq_true rfl⟩) hK hX hC rfl hl.1 rfl (Nat.le_of_ble_eq_true rfl) dX0_common_3 ⟨Nat.le_of_ble_eq_true rfl, Nat.le_of_ble_eq_true rfl⟩ (fun E ce q9 H locs hpe hC hce hcv hcl => kr_out ht hlk (⟨hpe.1, Or.inl hpe.2⟩) hC hce hcv hcl (Nat.le_of_ble_eq_true rfl) (Nat.le_of_ble_eq_true rfl)) (fun S1 H locs hp hC => ?_)
  obtain ⟨hc1, hS1⟩ := hp
  rw [hS1] at hC
  obtain ⟨j, q, hj, rfl, rfl, hq, hq32⟩ := ks_page_ex hP hc1
  have hF := hV.1 j q hj hq32
  refine lv_aload_n hx hb dX0_common_6 rfl (lv_at hl 0 rfl) ?_
  refine lv_iload_n hx hb dX0_common_7 rfl (lv_at hl 3 rfl) ?_
  refine lv_iload hx hb dX0_common_8 (lv_at hl 4 rfl) ?_
  refine kr_xv (As := [.int x2, .int y2]) (rest := []) ⟨hx, hb, hml, hown, hts⟩ (k0_requirePage l hl0 G S x2 y2 hP) (cwV 2 hts gX0_62 rfl rfl rfl hX0_requirePage ⟨Nat.le_of_ble_eq_true rfl, Nat.le_of_ble_eq_true rfl⟩) hK hX hC rfl hl.1 rfl (Nat.le_of_ble_eq_true rfl) dX0_common_10 ⟨Nat.le_of_ble_eq_true rfl, Nat.le_of_ble_eq_true rfl⟩ (fun E ce q9 H locs hpe hC hce hcv hcl => kr_out ht hlk (⟨hpe.1, Or.inr hpe.2⟩) hC hce hcv hcl (Nat.le_of_ble_eq_true rfl) (Nat.le_of_ble_eq_true rfl)) (fun S1 H locs hp hC => ?_)
  obtain ⟨hc2, hS1⟩ := hp
  rw [hS1] at hC
  obtain ⟨j2, q2, hj2, rfl, rfl, hq2, hq232⟩ := ks_page_ex hP hc2
  have hF2 := hV.1 j2 q2 hj2 hq232
  refine lv_aload_n hx hb dX0_common_13 rfl (lv_at hl 0 rfl) ?_
  refine kr_get hx hb hT kx_in hown hK hC 1 (by decide) (hT _ mw_26) rfl rfl dX0_common_14 ?_
  refine lv_iload_n hx hb dX0_common_17 rfl (lv_at hl 1 rfl) ?_
  refine kr_aF hx hb hK hC (by omega) dX0_common_18 ?_
  refine lv_iload_n hx hb dX0_common_19 rfl (lv_at hl 2 rfl) ?_
  refine kr_ldF hx hb hK hC (by omega) (by omega) dX0_common_20 ?_
  refine wn_if0 (tgt := 48) hx hb (by omega) dX0_common_21 rfl (fun h3 => ?_) (fun h3 => ?_)
  · refine lv_iconst (v := (nI 0)) hx hb dX0_common_48 (by decide +kernel) ?_
    exact kr_xzret hx hb hr hlk hC (by decide +kernel) (⟨j, q, j2, q2, hj, rfl, rfl, hq, hq32, hj2, rfl, rfl, hq2, hq232, by rw [if_neg (fun z => z.1 h3)], rfl⟩) dX0_common_49 (Nat.le_of_ble_eq_true rfl) (Nat.le_of_ble_eq_true rfl)
  · refine lv_aload_n hx hb dX0_common_24 rfl (lv_at hl 0 rfl) ?_
    refine kr_get hx hb hT kx_in hown hK hC 1 (by decide) (hT _ mw_26) rfl rfl dX0_common_25 ?_
    refine lv_iload_n hx hb dX0_common_28 rfl (lv_at hl 1 rfl) ?_
    refine kr_aF hx hb hK hC (by omega) dX0_common_29 ?_
    refine lv_iload_n hx hb dX0_common_30 rfl (lv_at hl 2 rfl) ?_
    refine kr_ldF hx hb hK hC (by omega) (by omega) dX0_common_31 ?_
    refine lv_aload_n hx hb dX0_common_32 rfl (lv_at hl 0 rfl) ?_
    refine kr_get hx hb hT kx_in hown hK hC 1 (by decide) (hT _ mw_26) rfl rfl dX0_common_33 ?_
    refine lv_iload_n hx hb dX0_common_36 rfl (lv_at hl 3 rfl) ?_
    refine kr_aF hx hb hK hC (by omega) dX0_common_37 ?_
    refine lv_iload hx hb dX0_common_38 (lv_at hl 4 rfl) ?_
    refine kr_ldF hx hb hK hC (by omega) (by omega) dX0_common_40 ?_
    refine wn_ne (tgt := 48) hx hb (by omega) (by omega) dX0_common_41 rfl (fun h4 => ?_) (fun h4 => ?_)
    · refine lv_iconst (v := (nI 0)) hx hb dX0_common_48 (by decide +kernel) ?_
      exact kr_xzret hx hb hr hlk hC (by decide +kernel) (⟨j, q, j2, q2, hj, rfl, rfl, hq, hq32, hj2, rfl, rfl, hq2, hq232, by rw [if_neg (fun z => h4 z.2)], rfl⟩) dX0_common_49 (Nat.le_of_ble_eq_true rfl) (Nat.le_of_ble_eq_true rfl)
    · refine lv_iconst (v := (nI 1)) hx hb dX0_common_44 (by decide +kernel) ?_
      refine lv_goto (tgt := 49) hx hb dX0_common_45 rfl ?_
      exact kr_xzret hx hb hr hlk hC (by decide +kernel) (⟨j, q, j2, q2, hj, rfl, rfl, hq, hq32, hj2, rfl, rfl, hq2, hq232, by rw [if_pos ⟨h3, h4⟩], rfl⟩) dX0_common_49 (Nat.le_of_ble_eq_true rfl) (Nat.le_of_ble_eq_true rfl)
set_option maxHeartbeats 4000000 in
set_option maxRecDepth 100000 in
/-- holders(x, y) -/
theorem k0_holders (l : Launch) (hl0 : l.stackTraces = false) (G : kg_T) (S : ks_T) (x y : Int32) (hP : ∀ r, r < 40 → ks_P S r ≤ 33) (hV : kv_c S) : vx_Met l yX0_holders wX0_holders ({ frames := 7, cells := 1, slots := 6, locals := 122 }) (va_Pc [.ref (kg_h G), .int x, .int y] (kc_px G S)) (va_Qi (fun (v : Int32) (S' : ks_T) => ∃ j q, j < 40 ∧ x = nI j ∧ y = nI q ∧ q + 1 < ks_P S j ∧ q < 32 ∧ v = nI (ks_H S (ks_F S j q)) ∧ S' = S) (kc_q G) (kg_A G)) (kc_xx G S (fun E : String => E = kx_nse ∧ ks_page S x y = false)) 1 6 (kg_A G) := by
  refine vx_ofW (cc := cX0_holders) (maxL := 3) (ret := (some .int)) (by decide) rfl ?_
  intro p e s m args below meth c s₁ B hml ht hv
  obtain ⟨rfl, hv⟩ := hv
  have hx := B.exec
  have hb := B.bytes
  have hr := B.returns
  have hlk := B.notSynchronized
  have hts := atoms_spec (ws := wX0_holders) B.pre
  have hT : ∀ w ∈ nw_T, w.before _ s = true := fun w h => hts w (List.mem_cons_of_mem _ h)
  have hown : s.vm.findClass RX0 = some m.cls := findClass_of_methodNamed B.named
  have hK : kc_K G s := hv.1.2.2
  have hX := hv.2
  have hC := kc_start hv.1
  have hl := lv_entry ([.ref (kg_h G), .int x, .int y]) (n := 3) (Nat.le_of_ble_eq_true rfl)
  rw [lg_entry_eq]
  generalize (lg_sl ([.ref (kg_h G), .int x, .int y]) ++ List.replicate (3 - (lg_sl ([.ref (kg_h G), .int x, .int y])).length) Slot.unset).toArray = ls at hl ⊢
  have hl : lv_has ls 3 [(0, .ref (kg_h G)), (1, .int x), (2, .int y)] := hl
  refine lv_aload_n hx hb dX0_holders_0 rfl (lv_at hl 0 rfl) ?_
  refine lv_iload_n hx hb dX0_holders_1 rfl (lv_at hl 1 rfl) ?_
  refine lv_iload_n hx hb dX0_holders_2 rfl (lv_at hl 2 rfl) ?_
  refine kr_xv (As := [.int x, .int y]) (rest := []) ⟨hx, hb, hml, hown, hts⟩ (k0_requirePage l hl0 G S x y hP) (cwV 2 hts gX0_62 rfl rfl rfl hX0_requirePage ⟨Nat.le_of_ble_eq_true rfl, Nat.le_of_ble_eq_true rfl⟩) hK hX hC rfl hl.1 rfl (Nat.le_of_ble_eq_true rfl) dX0_holders_3 ⟨Nat.le_of_ble_eq_true rfl, Nat.le_of_ble_eq_true rfl⟩ (fun E ce q9 H locs hpe hC hce hcv hcl => kr_out ht hlk (hpe) hC hce hcv hcl (Nat.le_of_ble_eq_true rfl) (Nat.le_of_ble_eq_true rfl)) (fun S1 H locs hp hC => ?_)
  obtain ⟨hc1, hS1⟩ := hp
  rw [hS1] at hC
  obtain ⟨j, q, hj, rfl, rfl, hq, hq32⟩ := ks_page_ex hP hc1
  have hF := hV.1 j q hj hq32
  refine lv_aload_n hx hb dX0_holders_6 rfl (lv_at hl 0 rfl) ?_
  refine kr_get hx hb hT kx_in hown hK hC 3 (by decide) (hT _ mw_28) rfl rfl dX0_holders_7 ?_
  refine lv_aload_n hx hb dX0_holders_10 rfl (lv_at hl 0 rfl) ?_
  refine kr_get hx hb hT kx_in hown hK hC 1 (by decide) (hT _ mw_26) rfl rfl dX0_holders_11 ?_
  refine lv_iload_n hx hb dX0_holders_14 rfl (lv_at hl 1 rfl) ?_
  refine kr_aF hx hb hK hC (by omega) dX0_holders_15 ?_
  refine lv_iload_n hx hb dX0_holders_16 rfl (lv_at hl 2 rfl) ?_
  refine kr_ldF hx hb hK hC (by omega) (by omega) dX0_holders_17 ?_
  refine kr_ldH hx hb hK hC (by omega) dX0_holders_18 ?_
  exact kr_xiret hx hb hr hlk hC (⟨j, q, hj, rfl, rfl, hq, hq32, rfl, rfl⟩) dX0_holders_19 (Nat.le_of_ble_eq_true rfl) (Nat.le_of_ble_eq_true rfl)
