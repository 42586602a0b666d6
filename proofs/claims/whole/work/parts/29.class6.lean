/-! lay, sweep, merge, about, count (laid by program) -/
set_option maxHeartbeats 4000000 in
set_option maxRecDepth 100000 in
/-- lay(x, y, x2, y2, z) -/
theorem k0_lay (l : Launch) (hl0 : l.stackTraces = false) (G : kg_T) (S : ks_T) (x y x2 y2 z : Int32) (hP : ∀ r, r < 40 → ks_P S r ≤ 33) (hV : kv_c S) : vx_Met l yX0_lay wX0_lay ({ frames := 7, cells := 2, slots := 12, locals := 122 }) (va_Pc [.ref (kg_h G), .int x, .int y, .int x2, .int y2, .int z] (kc_px G S)) (va_Qi (fun (v : Int32) (S' : ks_T) => ∃ j a jt at_ b w h o, j < 40 ∧ x = nI j ∧ y = nI a ∧ jt < 40 ∧ x2 = nI jt ∧ y2 = nI at_ ∧ z = nI b ∧ ks_P S j ≠ 0 ∧ ks_P S jt ≠ 0 ∧ a + b + 1 ≤ ks_P S j ∧ at_ + b + 1 ≤ ks_P S jt ∧ v = nI w ∧ S' = ly_S S (ly_F (ks_F S) (fun i => ks_F S jt (at_ + i)) j a b) h o ∧ (∀ f, f ≠ 0 → f ≤ 200 → h f = cn_f (ly_F (ks_F S) (fun i => ks_F S jt (at_ + i)) j a b) f) ∧ h 0 = 0 ∧ nz_f (ks_H S) = nz_f h + w) (kc_q G) (kg_A G)) (kc_xx G S (fun E : String => E = kx_nse ∧ (ks_pages S x y z = false ∨ ks_pages S x2 y2 z = false))) 2 12 (kg_A G) := by
  refine vx_ofW (cc := cX0_lay) (maxL := 9) (ret := (some .int)) (by decide) rfl ?_
  intro p e s m args below meth c s₁ B hml ht hv
  obtain ⟨rfl, hv⟩ := hv
  have hx := B.exec
  have hb := B.bytes
  have hr := B.returns
  have hlk := B.notSynchronized
  have hts := atoms_spec (ws := wX0_lay) B.pre
  have hT : ∀ w ∈ nw_T, w.before _ s = true := fun w h => hts w (List.mem_cons_of_mem _ h)
  have hown : s.vm.findClass RX0 = some m.cls := findClass_of_methodNamed B.named
  have hK : kc_K G s := hv.1.2.2
  have hX := hv.2
  have hC := kc_start hv.1
  have hl := lv_entry ([.ref (kg_h G), .int x, .int y, .int x2, .int y2, .int z]) (n := 9) (Nat.le_of_ble_eq_true rfl)
  rw [lg_entry_eq]
  generalize (lg_sl ([.ref (kg_h G), .int x, .int y, .int x2, .int y2, .int z]) ++ List.replicate (9 - (lg_sl ([.ref (kg_h G), .int x, .int y, .int x2, .int y2, .int z])).length) Slot.unset).toArray = ls at hl ⊢
  have hl : lv_has ls 9 [(0, .ref (kg_h G)), (1, .int x), (2, .int y), (3, .int x2), (4, .int y2), (5, .int z)] := hl
  refine lv_aload_n hx hb dX0_lay_0 rfl (lv_at hl 0 rfl) ?_
  refine lv_iload_n hx hb dX0_lay_1 rfl (lv_at hl 1 rfl) ?_
  refine lv_iload_n hx hb dX0_lay_2 rfl (lv_at hl 2 rfl) ?_
  refine lv_iload hx hb dX0_lay_3 (lv_at hl 5 rfl) ?_
  refine kr_xv (As := [.int x, .int y, .int z]) (rest := []) ⟨hx, hb, hml, hown, hts⟩ (k0_requirePages l hl0 G S x y z hP) (cwV 3 hts gX0_47 rfl rfl rfl hX0_requirePages ⟨Nat.le_of_ble_eq_true rfl, Nat.le_of_ble_eq_true rfl⟩) hK hX hC rfl hl.1 rfl (Nat.le_of_ble_eq_true rfl) dX0_lay_5 ⟨Nat.le_of_ble_eq_true rfl, Nat.le_of_ble_eq_true rfl⟩ (fun E ce q9 H locs hpe hC hce hcv hcl => kr_out ht hlk (⟨hpe.1, Or.inl hpe.2⟩) hC hce hcv hcl (Nat.le_of_ble_eq_true rfl) (Nat.le_of_ble_eq_true rfl)) (fun S1 H locs hp hC => ?_)
  obtain ⟨hc1, hS1⟩ := hp
  rw [hS1] at hC
  refine lv_aload_n hx hb dX0_lay_8 rfl (lv_at hl 0 rfl) ?_
  refine lv_iload_n hx hb dX0_lay_9 rfl (lv_at hl 3 rfl) ?_
  refine lv_iload hx hb dX0_lay_10 (lv_at hl 4 rfl) ?_
  refine lv_iload hx hb dX0_lay_12 (lv_at hl 5 rfl) ?_
  refine kr_xv (As := [.int x2, .int y2, .int z]) (rest := []) ⟨hx, hb, hml, hown, hts⟩ (k0_requirePages l hl0 G S x2 y2 z hP) (cwV 3 hts gX0_47 rfl rfl rfl hX0_requirePages ⟨Nat.le_of_ble_eq_true rfl, Nat.le_of_ble_eq_true rfl⟩) hK hX hC rfl hl.1 rfl (Nat.le_of_ble_eq_true rfl) dX0_lay_14 ⟨Nat.le_of_ble_eq_true rfl, Nat.le_of_ble_eq_true rfl⟩ (fun E ce q9 H locs hpe hC hce hcv hcl => kr_out ht hlk (⟨hpe.1, Or.inr hpe.2⟩) hC hce hcv hcl (Nat.le_of_ble_eq_true rfl) (Nat.le_of_ble_eq_true rfl)) (fun S1 H locs hp hC => ?_)
  obtain ⟨hc2, hS1⟩ := hp
  rw [hS1] at hC
  obtain ⟨jj, aa, bb, hj, rfl, rfl, rfl, hj0, hab, hab2⟩ := ks_pages_ex hP hc1
  obtain ⟨j2, a2, b2, hj2, rfl, rfl, eb, hj20, ha2, ha22⟩ := ks_pages_ex hP hc2
  obtain rfl : bb = b2 := (nI_eq (by omega) (by omega)).mp eb
  obtain ⟨car, hcar⟩ : ∃ c : Nat → Nat, c = fun i => ks_F S j2 (a2 + i) := ⟨_, rfl⟩
  have hc201 : ∀ i, i < bb → car i < 201 := fun i hi => by rw [hcar]; exact hV.1 j2 (a2 + i) hj2 (by omega)
  have hfin : ∀ (h : Nat → Nat) (o : Nat → Int32) (w0 : Nat) (ls : Array Slot) (H : Heap) (locs : List Loc), (∀ f, f ≠ 0 → f ≤ 200 → h f = cn_f (ly_F (ks_F S) car jj aa bb) f) → h 0 = 0 → nz_f (ks_H S) = nz_f h + w0 → lv_has ls 9 [(6, .int (nI w0))] → kc_at G (kg_A G) s.heap (ly_S S (ly_F (ks_F S) car jj aa bb) h o) H locs → W p l e (headSpec wX0_lay ({ frames := 7, cells := 2, slots := 12, locals := 122 })).room s m [.ref (kg_h G), .int (nI jj), .int (nI aa), .int (nI j2), .int (nI a2), .int (nI bb)].toArray below meth c H locs 2 12 (vx_MQ below (va_Qi (fun (v : Int32) (S' : ks_T) => ∃ j a jt at_ b w h o, j < 40 ∧ (nI jj) = nI j ∧ (nI aa) = nI a ∧ jt < 40 ∧ (nI j2) = nI jt ∧ (nI a2) = nI at_ ∧ (nI bb) = nI b ∧ ks_P S j ≠ 0 ∧ ks_P S jt ≠ 0 ∧ a + b + 1 ≤ ks_P S j ∧ at_ + b + 1 ≤ ks_P S jt ∧ v = nI w ∧ S' = ly_S S (ly_F (ks_F S) (fun i => ks_F S jt (at_ + i)) j a b) h o ∧ (∀ f, f ≠ 0 → f ≤ 200 → h f = cn_f (ly_F (ks_F S) (fun i => ks_F S jt (at_ + i)) j a b) f) ∧ h 0 = 0 ∧ nz_f (ks_H S) = nz_f h + w) (kc_q G) (kg_A G)) (kc_xx G S (fun E : String => E = kx_nse ∧ (ks_pages S (nI jj) (nI aa) (nI bb) = false ∨ ks_pages S (nI j2) (nI a2) (nI bb) = false))) [.ref (kg_h G), .int (nI jj), .int (nI aa), .int (nI j2), .int (nI a2), .int (nI bb)].toArray s 2 12 (kg_A G)) (F0 m 124 ls []) := by
    intro h o w0 ls H locs e1 e2 e3 hl hC
    refine lv_iload hx hb dX0_lay_124 (lv_at hl 0 rfl) ?_
    rw [hcar] at hC e1
    exact kr_xiret hx hb hr hlk hC (⟨jj, aa, j2, a2, bb, w0, h, o, hj, rfl, rfl, hj2, rfl, rfl, rfl, hj0, hj20, hab, ha2, rfl, rfl, e1, e2, e3⟩) dX0_lay_126 (Nat.le_of_ble_eq_true rfl) (Nat.le_of_ble_eq_true rfl)
  have loop2 : ∀ (n2 i w0 : Nat) (h : Nat → Nat) (o : Nat → Int32) (ls : Array Slot) (H : Heap) (locs : List Loc), i + n2 = bb → (∀ t, t < bb → o t = nI (car t)) → (∀ f, f ≠ 0 → f ≤ 200 → h f + pd_f car i f = cn_f (ly_F (ks_F S) car jj aa i) f + pd_f car bb f) → h 0 = 0 → nz_f (ks_H S) = nz_f h + w0 → lv_has ls 9 [(7, .int (nI i)), (6, .int (nI w0)), (0, .ref (kg_h G)), (1, .int (nI jj)), (2, .int (nI aa)), (3, .int (nI j2)), (4, .int (nI a2)), (5, .int (nI bb))] → kc_at G (kg_A G) s.heap (ly_S S (ly_F (ks_F S) car jj aa i) h o) H locs → W p l e (headSpec wX0_lay ({ frames := 7, cells := 2, slots := 12, locals := 122 })).room s m [.ref (kg_h G), .int (nI jj), .int (nI aa), .int (nI j2), .int (nI a2), .int (nI bb)].toArray below meth c H locs 2 12 (vx_MQ below (va_Qi (fun (v : Int32) (S' : ks_T) => ∃ j a jt at_ b w h o, j < 40 ∧ (nI jj) = nI j ∧ (nI aa) = nI a ∧ jt < 40 ∧ (nI j2) = nI jt ∧ (nI a2) = nI at_ ∧ (nI bb) = nI b ∧ ks_P S j ≠ 0 ∧ ks_P S jt ≠ 0 ∧ a + b + 1 ≤ ks_P S j ∧ at_ + b + 1 ≤ ks_P S jt ∧ v = nI w ∧ S' = ly_S S (ly_F (ks_F S) (fun i => ks_F S jt (at_ + i)) j a b) h o ∧ (∀ f, f ≠ 0 → f ≤ 200 → h f = cn_f (ly_F (ks_F S) (fun i => ks_F S jt (at_ + i)) j a b) f) ∧ h 0 = 0 ∧ nz_f (ks_H S) = nz_f h + w) (kc_q G) (kg_A G)) (kc_xx G S (fun E : String => E = kx_nse ∧ (ks_pages S (nI jj) (nI aa) (nI bb) = false ∨ ks_pages S (nI j2) (nI a2) (nI bb) = false))) [.ref (kg_h G), .int (nI jj), .int (nI aa), .int (nI j2), .int (nI a2), .int (nI bb)].toArray s 2 12 (kg_A G)) (F0 m 69 ls []) := by
    intro n2
    induction n2 with
    | zero =>
      intro i w0 h o ls H locs hm hA h1 h2 h3 hl hC
      refine lv_iload hx hb dX0_lay_69 (lv_at hl 0 rfl) ?_
      refine lv_iload hx hb dX0_lay_71 (lv_at hl 7 rfl) ?_
      refine wn_ge (tgt := 124) hx hb (by omega) (by omega) dX0_lay_73 rfl (fun _ => ?_) (fun h9 => absurd h9 (by omega))
      obtain rfl : i = bb := by omega
      have hl := lv_sub (l' := [(6, .int (nI w0))]) hl [1] rfl
      exact hfin h o w0 ls H locs (fun f h0 hf => by have := h1 f h0 hf; omega) h2 h3 hl hC
    | succ n2 ih =>
      intro i w0 h o ls H locs hm hA h1 h2 h3 hl hC
      refine lv_iload hx hb dX0_lay_69 (lv_at hl 0 rfl) ?_
      refine lv_iload hx hb dX0_lay_71 (lv_at hl 7 rfl) ?_
      refine wn_ge (tgt := 124) hx hb (by omega) (by omega) dX0_lay_73 rfl (fun h9 => absurd h9 (by omega)) (fun _ => ?_)
      have hF0 : ks_F S jj (aa + i) < 201 := hV.1 jj (aa + i) hj (by omega)
      have eF : ks_F (ly_S S (ly_F (ks_F S) car jj aa i) h o) jj (aa + i) = ks_F S jj (aa + i) := ly_at _ _ _ _ _
      have eA : ks_A (ly_S S (ly_F (ks_F S) car jj aa i) h o) i = nI (car i) := hA i (by omega)
      refine lv_aload_n hx hb dX0_lay_76 rfl (lv_at hl 2 rfl) ?_
      refine kr_get hx hb hT kx_in hown hK hC 1 (by decide) (hT _ mw_26) rfl rfl dX0_lay_77 ?_
      refine lv_iload_n hx hb dX0_lay_80 rfl (lv_at hl 3 rfl) ?_
      refine kr_aF hx hb hK hC (by omega) dX0_lay_81 ?_
      refine lv_iload_n hx hb dX0_lay_82 rfl (lv_at hl 4 rfl) ?_
      refine lv_iload hx hb dX0_lay_83 (lv_at hl 0 rfl) ?_
      refine wn_add hx hb dX0_lay_85 ?_
      refine kr_ldF hx hb hK hC (by omega) (by omega) dX0_lay_86 ?_
      rw [eF]
      refine lv_istore (lv' := [(8, .int (nI (ks_F S jj (aa + i)))), (7, .int (nI i)), (6, .int (nI w0)), (0, .ref (kg_h G)), (1, .int (nI jj)), (2, .int (nI aa)), (3, .int (nI j2)), (4, .int (nI a2)), (5, .int (nI bb))]) hx hb dX0_lay_87 hl (by decide) rfl (fun ls hl => ?_)
      refine lv_aload_n hx hb dX0_lay_89 rfl (lv_at hl 3 rfl) ?_
      refine kr_get hx hb hT kx_in hown hK hC 1 (by decide) (hT _ mw_26) rfl rfl dX0_lay_90 ?_
      refine lv_iload_n hx hb dX0_lay_93 rfl (lv_at hl 4 rfl) ?_
      refine kr_aF hx hb hK hC (by omega) dX0_lay_94 ?_
      refine lv_iload_n hx hb dX0_lay_95 rfl (lv_at hl 5 rfl) ?_
      refine lv_iload hx hb dX0_lay_96 (lv_at hl 1 rfl) ?_
      refine wn_add hx hb dX0_lay_98 ?_
      refine lv_aload_n hx hb dX0_lay_99 rfl (lv_at hl 3 rfl) ?_
      refine kr_get hx hb hT kx_in hown hK hC 4 (by decide) (hT _ mw_29) rfl rfl dX0_lay_100 ?_
      refine lv_iload hx hb dX0_lay_103 (lv_at hl 1 rfl) ?_
      refine kr_ldA hx hb hK hC (by omega) dX0_lay_105 ?_
      rw [eA]
      refine kr_stF hx hb hK hC (by omega) (by omega) rfl dX0_lay_106 (fun H locs hC => ?_)
      have hC : kc_at G (kg_A G) s.heap (ly_S S (ly_F (ks_F S) car jj aa (i + 1)) h o) H locs := by rw [ly_s]; exact hC
      refine lv_iload hx hb dX0_lay_107 (lv_at hl 2 rfl) ?_
      refine lv_aload_n hx hb dX0_lay_109 rfl (lv_at hl 3 rfl) ?_
      refine lv_iload hx hb dX0_lay_110 (lv_at hl 0 rfl) ?_
      refine kr_ci (As := [.int (nI (ks_F S jj (aa + i)))]) (rest := [.int (nI w0)]) ⟨hx, hb, hml, hown, hts⟩ (k0_letGo l G (ly_S S (ly_F (ks_F S) car jj aa (i + 1)) h o) (ks_F S jj (aa + i)) hF0 (ly_1 hj (by omega) (by omega) hF0 h1) (ly_2 (by omega) h1 h2 hF0)) (cwV 1 hts gX0_79 rfl rfl rfl hX0_letGo ⟨Nat.le_of_ble_eq_true rfl, Nat.le_of_ble_eq_true rfl⟩) hK hC rfl hl.1 rfl (Nat.le_of_ble_eq_true rfl) dX0_lay_112 ⟨Nat.le_of_ble_eq_true rfl, Nat.le_of_ble_eq_true rfl⟩ (fun v S1 H locs hp hC => ?_)
      obtain ⟨rfl, hS1⟩ := hp
      rw [hS1] at hC
      have hC : kc_at G (kg_A G) s.heap (ly_S S (ly_F (ks_F S) car jj aa (i + 1)) (kp_l h (ks_F S jj (aa + i))) o) H locs := hC
      refine wn_add hx hb dX0_lay_115 ?_
      refine lv_istore (lv' := [(6, .int (nI (w0 + (kp_w h (ks_F S jj (aa + i)))))), (8, .int (nI (ks_F S jj (aa + i)))), (7, .int (nI i)), (0, .ref (kg_h G)), (1, .int (nI jj)), (2, .int (nI aa)), (3, .int (nI j2)), (4, .int (nI a2)), (5, .int (nI bb))]) hx hb dX0_lay_116 hl (by decide) rfl (fun ls hl => ?_)
      refine lv_iinc (lv' := [(7, .int (nI (i + 1))), (6, .int (nI (w0 + (kp_w h (ks_F S jj (aa + i)))))), (8, .int (nI (ks_F S jj (aa + i)))), (0, .ref (kg_h G)), (1, .int (nI jj)), (2, .int (nI aa)), (3, .int (nI j2)), (4, .int (nI a2)), (5, .int (nI bb))]) (v := (nI (i + 1))) (k := 2) hx hb dX0_lay_118 hl rfl (nI_1 _) (by decide) rfl (fun ls hl => ?_)
      refine lv_goto (tgt := 69) hx hb dX0_lay_121 rfl ?_
      have hl := lv_sub (l' := [(7, .int (nI (i + 1))), (6, .int (nI (w0 + kp_w h (ks_F S jj (aa + i))))), (0, .ref (kg_h G)), (1, .int (nI jj)), (2, .int (nI aa)), (3, .int (nI j2)), (4, .int (nI a2)), (5, .int (nI bb))]) hl [0, 1, 3, 4, 5, 6, 7, 8] rfl
      have e5 := kp_nzl (H := h) (f := ks_F S jj (aa + i)) (by omega) (fun h0 => ly_1 hj (by omega) (by omega) hF0 h1 h0)
      exact ih (i + 1) (w0 + kp_w h (ks_F S jj (aa + i))) (kp_l h (ks_F S jj (aa + i))) o ls H locs (by omega) hA (ly_step hj (by omega) (by omega) h1) (by rw [kp_l_z]; exact h2) (by omega) hl hC
  have loop1 : ∀ (n i : Nat) (h : Nat → Nat) (o : Nat → Int32) (ls : Array Slot) (H : Heap) (locs : List Loc), i + n = bb → (∀ t, t < i → o t = nI (car t)) → (∀ f, f ≠ 0 → h f = ks_H S f + pd_f car i f) → h 0 = 0 → lv_has ls 9 [(6, .int (nI i)), (0, .ref (kg_h G)), (1, .int (nI jj)), (2, .int (nI aa)), (3, .int (nI j2)), (4, .int (nI a2)), (5, .int (nI bb))] → kc_at G (kg_A G) s.heap (ly_S S (ks_F S) h o) H locs → W p l e (headSpec wX0_lay ({ frames := 7, cells := 2, slots := 12, locals := 122 })).room s m [.ref (kg_h G), .int (nI jj), .int (nI aa), .int (nI j2), .int (nI a2), .int (nI bb)].toArray below meth c H locs 2 12 (vx_MQ below (va_Qi (fun (v : Int32) (S' : ks_T) => ∃ j a jt at_ b w h o, j < 40 ∧ (nI jj) = nI j ∧ (nI aa) = nI a ∧ jt < 40 ∧ (nI j2) = nI jt ∧ (nI a2) = nI at_ ∧ (nI bb) = nI b ∧ ks_P S j ≠ 0 ∧ ks_P S jt ≠ 0 ∧ a + b + 1 ≤ ks_P S j ∧ at_ + b + 1 ≤ ks_P S jt ∧ v = nI w ∧ S' = ly_S S (ly_F (ks_F S) (fun i => ks_F S jt (at_ + i)) j a b) h o ∧ (∀ f, f ≠ 0 → f ≤ 200 → h f = cn_f (ly_F (ks_F S) (fun i => ks_F S jt (at_ + i)) j a b) f) ∧ h 0 = 0 ∧ nz_f (ks_H S) = nz_f h + w) (kc_q G) (kg_A G)) (kc_xx G S (fun E : String => E = kx_nse ∧ (ks_pages S (nI jj) (nI aa) (nI bb) = false ∨ ks_pages S (nI j2) (nI a2) (nI bb) = false))) [.ref (kg_h G), .int (nI jj), .int (nI aa), .int (nI j2), .int (nI a2), .int (nI bb)].toArray s 2 12 (kg_A G)) (F0 m 20 ls []) := by
    intro n
    induction n with
    | zero =>
      intro i h o ls H locs hm hA h1 h2 hl hC
      refine lv_iload hx hb dX0_lay_20 (lv_at hl 0 rfl) ?_
      refine lv_iload hx hb dX0_lay_22 (lv_at hl 6 rfl) ?_
      refine wn_ge (tgt := 63) hx hb (by omega) (by omega) dX0_lay_24 rfl (fun _ => ?_) (fun h9 => absurd h9 (by omega))
      obtain rfl : i = bb := by omega
      refine lv_iconst (v := (nI 0)) hx hb dX0_lay_63 (by decide +kernel) ?_
      refine lv_istore (lv' := [(6, .int (nI 0)), (0, .ref (kg_h G)), (1, .int (nI jj)), (2, .int (nI aa)), (3, .int (nI j2)), (4, .int (nI a2)), (5, .int (nI i))]) hx hb dX0_lay_64 hl (by decide) rfl (fun ls hl => ?_)
      refine lv_iconst (v := (nI 0)) hx hb dX0_lay_66 (by decide +kernel) ?_
      refine lv_istore (lv' := [(7, .int (nI 0)), (6, .int (nI 0)), (0, .ref (kg_h G)), (1, .int (nI jj)), (2, .int (nI aa)), (3, .int (nI j2)), (4, .int (nI a2)), (5, .int (nI i))]) hx hb dX0_lay_67 hl (by decide) rfl (fun ls hl => ?_)
      have hC : kc_at G (kg_A G) s.heap (ly_S S (ly_F (ks_F S) car jj aa 0) h o) H locs := by rw [ly_0]; exact hC
      have e5 : nz_f h = nz_f (ks_H S) := ly_nz h1 (fun t ht h0 => by
          have e6 : car t = ks_F S j2 (a2 + t) := by rw [hcar]
          rw [e6] at h0 ⊢
          exact kv_1 hV hj2 (by omega) h0)
      exact loop2 i 0 0 h o ls H locs (by omega) hA (fun f h0 hf => by rw [h1 f h0, hV.2.1 f h0 hf, ly_0]; rfl) h2 (by rw [e5]; rfl) hl hC
    | succ n ih =>
      intro i h o ls H locs hm hA h1 h2 hl hC
      refine lv_iload hx hb dX0_lay_20 (lv_at hl 0 rfl) ?_
      refine lv_iload hx hb dX0_lay_22 (lv_at hl 6 rfl) ?_
      refine wn_ge (tgt := 63) hx hb (by omega) (by omega) dX0_lay_24 rfl (fun h9 => absurd h9 (by omega)) (fun _ => ?_)
      have ec : car i = ks_F S j2 (a2 + i) := by rw [hcar]
      have eF : ks_F (ly_S S (ks_F S) h o) j2 (a2 + i) = car i := ec.symm
      refine lv_aload_n hx hb dX0_lay_27 rfl (lv_at hl 1 rfl) ?_
      refine kr_get hx hb hT kx_in hown hK hC 4 (by decide) (hT _ mw_29) rfl rfl dX0_lay_28 ?_
      refine lv_iload hx hb dX0_lay_31 (lv_at hl 0 rfl) ?_
      refine lv_aload_n hx hb dX0_lay_33 rfl (lv_at hl 1 rfl) ?_
      refine kr_get hx hb hT kx_in hown hK hC 1 (by decide) (hT _ mw_26) rfl rfl dX0_lay_34 ?_
      refine lv_iload_n hx hb dX0_lay_37 rfl (lv_at hl 4 rfl) ?_
      refine kr_aF hx hb hK hC (by omega) dX0_lay_38 ?_
      refine lv_iload hx hb dX0_lay_39 (lv_at hl 5 rfl) ?_
      refine lv_iload hx hb dX0_lay_41 (lv_at hl 0 rfl) ?_
      refine wn_add hx hb dX0_lay_43 ?_
      refine kr_ldF hx hb hK hC (by omega) (by omega) dX0_lay_44 ?_
      rw [eF]
      refine kr_stA hx hb hK hC (by omega) dX0_lay_45 (fun H locs hC => ?_)
      have hC : kc_at G (kg_A G) s.heap (ly_S S (ks_F S) h (upd o i (nI (car i)))) H locs := hC
      have eA : ks_A (ly_S S (ks_F S) h (upd o i (nI (car i)))) i = nI (car i) := if_pos rfl
      refine lv_aload_n hx hb dX0_lay_46 rfl (lv_at hl 1 rfl) ?_
      refine lv_aload_n hx hb dX0_lay_47 rfl (lv_at hl 1 rfl) ?_
      refine kr_get hx hb hT kx_in hown hK hC 4 (by decide) (hT _ mw_29) rfl rfl dX0_lay_48 ?_
      refine lv_iload hx hb dX0_lay_51 (lv_at hl 0 rfl) ?_
      refine kr_ldA hx hb hK hC (by omega) dX0_lay_53 ?_
      rw [eA]
      refine kr_cv (As := [.int (nI (car i))]) (rest := []) ⟨hx, hb, hml, hown, hts⟩ (k0_hold l G (ly_S S (ks_F S) h (upd o i (nI (car i)))) (car i) (hc201 i (by omega))) (cwV 1 hts gX0_76 rfl rfl rfl hX0_hold ⟨Nat.le_of_ble_eq_true rfl, Nat.le_of_ble_eq_true rfl⟩) hK hC rfl hl.1 rfl (Nat.le_of_ble_eq_true rfl) dX0_lay_54 ⟨Nat.le_of_ble_eq_true rfl, Nat.le_of_ble_eq_true rfl⟩ (fun S1 H locs hp hC => ?_)
      rw [hp] at hC
      have hC : kc_at G (kg_A G) s.heap (ly_S S (ks_F S) (kp_h h (car i)) (upd o i (nI (car i)))) H locs := hC
      refine lv_iinc (lv' := [(6, .int (nI (i + 1))), (0, .ref (kg_h G)), (1, .int (nI jj)), (2, .int (nI aa)), (3, .int (nI j2)), (4, .int (nI a2)), (5, .int (nI bb))]) (v := (nI (i + 1))) (k := 0) hx hb dX0_lay_57 hl rfl (nI_1 _) (by decide) rfl (fun ls hl => ?_)
      refine lv_goto (tgt := 20) hx hb dX0_lay_60 rfl ?_
      exact ih (i + 1) (kp_h h (car i)) (upd o i (nI (car i))) ls H locs (by omega) (lt_s (fun t ht => by rw [← hA t ht]; exact if_neg (by omega)) (if_pos rfl)) (fun f h0 => by rw [kp_h_at _ _ _ h0, h1 f h0, pd_s]; omega) (by rw [kp_h_z]; exact h2) hl hC
  refine lv_iconst (v := (nI 0)) hx hb dX0_lay_17 (by decide +kernel) ?_
  refine lv_istore (lv' := [(6, .int (nI 0)), (0, .ref (kg_h G)), (1, .int (nI jj)), (2, .int (nI aa)), (3, .int (nI j2)), (4, .int (nI a2)), (5, .int (nI bb))]) hx hb dX0_lay_18 hl (by decide) rfl (fun ls hl => ?_)
  exact loop1 bb 0 (ks_H S) (ks_A S) ls H locs (by omega) lt_0 (fun f _ => rfl) hV.2.2 hl hC
set_option maxHeartbeats 4000000 in
set_option maxRecDepth 100000 in
/-- sweep() -/
theorem k0_sweep (l : Launch) (G : kg_T) (S : ks_T) (hP : ∀ r, r < 40 → ks_P S r ≤ 33) (hV : kv_c S) : Met l yX0_sweep wX0_sweep ({ frames := 2, cells := 0, slots := 0, locals := 64 }) (va_Pc [.ref (kg_h G)] (kc_p G S)) (va_Qi (fun (v : Int32) (S' : ks_T) => v = nI (it_a ks_swp S 40).2 ∧ S' = (it_a ks_swp S 40).1) (kc_q G) (kg_A G)) 0 0 (kg_A G) := by
  refine Met.ofW (cc := cX0_sweep) (maxL := 4) (ret := (some .int)) (by decide) rfl ?_
  intro p e s m args below meth c s₁ B hml hv
  obtain ⟨rfl, hv⟩ := hv
  have hx := B.exec
  have hb := B.bytes
  have hr := B.returns
  have hlk := B.notSynchronized
  have hts := atoms_spec (ws := wX0_sweep) B.pre
  have hT : ∀ w ∈ nw_T, w.before _ s = true := fun w h => hts w (List.mem_cons_of_mem _ h)
  have hown : s.vm.findClass RX0 = some m.cls := findClass_of_methodNamed B.named
  have hK : kc_K G s := hv.2.2
  have hC := kc_start hv
  have hl := lv_entry ([.ref (kg_h G)]) (n := 4) (Nat.le_of_ble_eq_true rfl)
  rw [lg_entry_eq]
  generalize (lg_sl ([.ref (kg_h G)]) ++ List.replicate (4 - (lg_sl ([.ref (kg_h G)])).length) Slot.unset).toArray = ls at hl ⊢
  have hl : lv_has ls 4 [(0, .ref (kg_h G))] := hl
  refine lv_iconst (v := (nI 0)) hx hb dX0_sweep_0 (by decide +kernel) ?_
  refine lv_istore_n (lv' := [(1, .int (nI 0)), (0, .ref (kg_h G))]) hx hb dX0_sweep_1 rfl hl (by decide) rfl (fun ls hl => ?_)
  refine lv_iconst (v := (nI 0)) hx hb dX0_sweep_2 (by decide +kernel) ?_
  refine lv_istore_n (lv' := [(2, .int (nI 0)), (1, .int (nI 0)), (0, .ref (kg_h G))]) hx hb dX0_sweep_3 rfl hl (by decide) rfl (fun ls hl => ?_)
  have hI : ∀ n, n ≤ 40 → (kv_c (it_a ks_swp S n).1 ∧ ks_P (it_a ks_swp S n).1 = ks_P S ∧ ks_C (it_a ks_swp S n).1 = ks_C S) := fun n hn => it_a_I (st := ks_swp) (S := S) (fun T => (kv_c T ∧ ks_P T = ks_P S ∧ ks_C T = ks_C S)) hP ⟨hV, rfl, rfl⟩ (fun T r p hr hp h => swp_I hr hp h) n hn
  have loop : ∀ (n r : Nat) (ls : Array Slot) (H : Heap) (locs : List Loc), r + n = 40 → lv_has ls 4 [(2, .int (nI r)), (1, .int (nI ((it_a ks_swp S r).2))), (0, .ref (kg_h G))] → kc_at G (kg_A G) s.heap (it_a ks_swp S r).1 H locs → W p l e (headSpec wX0_sweep ({ frames := 2, cells := 0, slots := 0, locals := 64 })).room s m [.ref (kg_h G)].toArray below meth c H locs 0 0 (MQ below (va_Qi (fun (v : Int32) (S' : ks_T) => v = nI (it_a ks_swp S 40).2 ∧ S' = (it_a ks_swp S 40).1) (kc_q G) (kg_A G)) [.ref (kg_h G)].toArray s 0 0 (kg_A G)) (F0 m 4 ls []) := by
    intro n
    induction n with
    | zero =>
      intro r ls H locs hm hl hC
      refine lv_iload_n hx hb dX0_sweep_4 rfl (lv_at hl 0 rfl) ?_
      refine lv_bipush (v := (nI 40)) hx hb dX0_sweep_5 (by decide +kernel) ?_
      refine wn_ge (tgt := 60) hx hb (by omega) (by omega) dX0_sweep_7 rfl (fun _ => ?_) (fun h9 => absurd h9 (by omega))
      obtain rfl : r = 40 := by omega
      refine lv_iload_n hx hb dX0_sweep_60 rfl (lv_at hl 1 rfl) ?_
      exact kr_iret hx hb hr hlk hC (⟨rfl, rfl⟩) dX0_sweep_61
    | succ n ih =>
      intro r ls H locs hm hl hC
      refine lv_iload_n hx hb dX0_sweep_4 rfl (lv_at hl 0 rfl) ?_
      refine lv_bipush (v := (nI 40)) hx hb dX0_sweep_5 (by decide +kernel) ?_
      refine wn_ge (tgt := 60) hx hb (by omega) (by omega) dX0_sweep_7 rfl (fun h9 => absurd h9 (by omega)) (fun _ => ?_)
      refine lv_iconst (v := (nI 0)) hx hb dX0_sweep_10 (by decide +kernel) ?_
      refine lv_istore_n (lv' := [(3, .int (nI 0)), (2, .int (nI r)), (1, .int (nI ((it_a ks_swp S r).2))), (0, .ref (kg_h G))]) hx hb dX0_sweep_11 rfl hl (by decide) rfl (fun ls hl => ?_)
      have hgo : ∀ (ls : Array Slot) (H : Heap) (locs : List Loc), lv_has ls 4 [(1, .int (nI ((it_a ks_swp S r).2 + (it_r ks_swp (it_a ks_swp S r).1 r (ks_P S r - 1)).2))), (2, .int (nI r)), (0, .ref (kg_h G))] → kc_at G (kg_A G) s.heap (it_r ks_swp (it_a ks_swp S r).1 r (ks_P S r - 1)).1 H locs → W p l e (headSpec wX0_sweep ({ frames := 2, cells := 0, slots := 0, locals := 64 })).room s m [.ref (kg_h G)].toArray below meth c H locs 0 0 (MQ below (va_Qi (fun (v : Int32) (S' : ks_T) => v = nI (it_a ks_swp S 40).2 ∧ S' = (it_a ks_swp S 40).1) (kc_q G) (kg_A G)) [.ref (kg_h G)].toArray s 0 0 (kg_A G)) (F0 m 54 ls []) := by
        intro ls H locs hl hC
        refine lv_iinc (lv' := [(2, .int (nI (r + 1))), (1, .int (nI ((it_a ks_swp S r).2 + (it_r ks_swp (it_a ks_swp S r).1 r (ks_P S r - 1)).2))), (0, .ref (kg_h G))]) (v := (nI (r + 1))) (k := 1) hx hb dX0_sweep_54 hl rfl (nI_1 _) (by decide) rfl (fun ls hl => ?_)
        refine lv_goto (tgt := 4) hx hb dX0_sweep_57 rfl ?_
        exact ih (r + 1) ls H locs (by omega) hl hC
      have hIr := hI r (by omega)
      have h33 : ks_P S r ≤ 33 := hP r (by omega)
      by_cases hr0 : ks_P S r = 0
      · refine lv_iload_n hx hb dX0_sweep_12 rfl (lv_at hl 0 rfl) ?_
        refine lv_aload_n hx hb dX0_sweep_13 rfl (lv_at hl 3 rfl) ?_
        refine kr_get hx hb hT kx_in hown hK hC 0 (by decide) (hT _ mw_25) rfl rfl dX0_sweep_14 ?_
        refine lv_iload_n hx hb dX0_sweep_17 rfl (lv_at hl 1 rfl) ?_
        refine kr_ldP hx hb hK hC (by omega) dX0_sweep_18 ?_
        have e1 : ks_e (ks_P (it_a ks_swp S r).1 r) = -1 := by rw [hIr.2.1]; show ks_e (ks_P S r) = -1; rw [hr0]; rfl
        rw [e1]
        refine lv_icmp_ge (tgt := 54) hx hb dX0_sweep_19 rfl (fun _ => ?_) (fun h9 => absurd (show (-1 : Int32) ≤ nI 0 by decide +kernel) h9)
        have e2 : ks_P S r - 1 = 0 := by omega
        rw [e2] at hgo
        have hl := lv_sub (l' := [(1, .int (nI ((it_a ks_swp S r).2 + 0))), (2, .int (nI r)), (0, .ref (kg_h G))]) hl [2, 1, 3] rfl
        exact hgo ls H locs hl hC
      · obtain ⟨k, hk⟩ : ∃ k, ks_P S r = k + 1 := ⟨ks_P S r - 1, by omega⟩
        have e2 : ks_P S r - 1 = k := by omega
        rw [e2] at hgo
        have hJ : ∀ n, n ≤ 32 → (kv_c (it_r ks_swp (it_a ks_swp S r).1 r n).1 ∧ ks_P (it_r ks_swp (it_a ks_swp S r).1 r n).1 = ks_P S ∧ ks_C (it_r ks_swp (it_a ks_swp S r).1 r n).1 = ks_C S) := fun n hn => it_r_I (fun T => (kv_c T ∧ ks_P T = ks_P S ∧ ks_C T = ks_C S)) hIr (fun T p hp h => swp_I (by omega) hp h) n hn
        have loop2 : ∀ (n2 i : Nat) (ls : Array Slot) (H : Heap) (locs : List Loc), i + n2 = k → lv_has ls 4 [(3, .int (nI i)), (2, .int (nI r)), (1, .int (nI ((it_a ks_swp S r).2 + (it_r ks_swp (it_a ks_swp S r).1 r i).2))), (0, .ref (kg_h G))] → kc_at G (kg_A G) s.heap (it_r ks_swp (it_a ks_swp S r).1 r i).1 H locs → W p l e (headSpec wX0_sweep ({ frames := 2, cells := 0, slots := 0, locals := 64 })).room s m [.ref (kg_h G)].toArray below meth c H locs 0 0 (MQ below (va_Qi (fun (v : Int32) (S' : ks_T) => v = nI (it_a ks_swp S 40).2 ∧ S' = (it_a ks_swp S 40).1) (kc_q G) (kg_A G)) [.ref (kg_h G)].toArray s 0 0 (kg_A G)) (F0 m 12 ls []) := by
          intro n2
          induction n2 with
          | zero =>
            intro i ls H locs hm2 hl hC
            have hJi := hJ i (by omega)
            have ek : ks_e (ks_P (it_r ks_swp (it_a ks_swp S r).1 r i).1 r) = nI k := by rw [hJi.2.1]; show ks_e (ks_P S r) = nI k; rw [ks_es (by omega), hk]; rfl
            refine lv_iload_n hx hb dX0_sweep_12 rfl (lv_at hl 0 rfl) ?_
            refine lv_aload_n hx hb dX0_sweep_13 rfl (lv_at hl 3 rfl) ?_
            refine kr_get hx hb hT kx_in hown hK hC 0 (by decide) (hT _ mw_25) rfl rfl dX0_sweep_14 ?_
            refine lv_iload_n hx hb dX0_sweep_17 rfl (lv_at hl 1 rfl) ?_
            refine kr_ldP hx hb hK hC (by omega) dX0_sweep_18 ?_
            rw [ek]
            refine wn_ge (tgt := 54) hx hb (by omega) (by omega) dX0_sweep_19 rfl (fun _ => ?_) (fun h9 => absurd h9 (by omega))
            obtain rfl : i = k := by omega
            have hl := lv_sub (l' := [(1, .int (nI ((it_a ks_swp S r).2 + (it_r ks_swp (it_a ks_swp S r).1 r i).2))), (2, .int (nI r)), (0, .ref (kg_h G))]) hl [2, 1, 3] rfl
            exact hgo ls H locs hl hC
          | succ n2 ih2 =>
            intro i ls H locs hm2 hl hC
            have hJi := hJ i (by omega)
            have ek : ks_e (ks_P (it_r ks_swp (it_a ks_swp S r).1 r i).1 r) = nI k := by rw [hJi.2.1]; show ks_e (ks_P S r) = nI k; rw [ks_es (by omega), hk]; rfl
            refine lv_iload_n hx hb dX0_sweep_12 rfl (lv_at hl 0 rfl) ?_
            refine lv_aload_n hx hb dX0_sweep_13 rfl (lv_at hl 3 rfl) ?_
            refine kr_get hx hb hT kx_in hown hK hC 0 (by decide) (hT _ mw_25) rfl rfl dX0_sweep_14 ?_
            refine lv_iload_n hx hb dX0_sweep_17 rfl (lv_at hl 1 rfl) ?_
            refine kr_ldP hx hb hK hC (by omega) dX0_sweep_18 ?_
            rw [ek]
            refine wn_ge (tgt := 54) hx hb (by omega) (by omega) dX0_sweep_19 rfl (fun h9 => absurd h9 (by omega)) (fun _ => ?_)
            have hF : ks_F (it_r ks_swp (it_a ks_swp S r).1 r i).1 r i < 201 := hJi.1.1 r i (by omega) (by omega)
            refine lv_aload_n hx hb dX0_sweep_22 rfl (lv_at hl 3 rfl) ?_
            refine lv_aload_n hx hb dX0_sweep_23 rfl (lv_at hl 3 rfl) ?_
            refine kr_get hx hb hT kx_in hown hK hC 1 (by decide) (hT _ mw_26) rfl rfl dX0_sweep_24 ?_
            refine lv_iload_n hx hb dX0_sweep_27 rfl (lv_at hl 1 rfl) ?_
            refine kr_aF hx hb hK hC (by omega) dX0_sweep_28 ?_
            refine lv_iload_n hx hb dX0_sweep_29 rfl (lv_at hl 0 rfl) ?_
            refine kr_ldF hx hb hK hC (by omega) (by omega) dX0_sweep_30 ?_
            refine lv_iconst (v := (nI 0)) hx hb dX0_sweep_31 (by decide +kernel) ?_
            refine kr_ci (As := [.int (nI (ks_F (it_r ks_swp (it_a ks_swp S r).1 r i).1 r i)), .int (nI 0)]) (rest := []) ⟨hx, hb, hml, hown, hts⟩ (k0_sameCells l G (it_r ks_swp (it_a ks_swp S r).1 r i).1 (ks_F (it_r ks_swp (it_a ks_swp S r).1 r i).1 r i) 0 hF (by omega)) (cwV 2 hts gX0_83 rfl rfl rfl hX0_sameCells ⟨Nat.le_of_ble_eq_true rfl, Nat.le_of_ble_eq_true rfl⟩) hK hC rfl hl.1 rfl (Nat.le_of_ble_eq_true rfl) dX0_sweep_32 ⟨Nat.zero_le _, Nat.zero_le _⟩ (fun v S1 H locs hp hC => ?_)
            obtain ⟨hv1, hS1⟩ := hp
            rw [hS1] at hC
            refine lv_if_eq (tgt := 48) hx hb dX0_sweep_35 rfl (fun h3 => ?_) (fun h3 => ?_)
            · have e : ks_same (it_r ks_swp (it_a ks_swp S r).1 r i).1 (ks_F (it_r ks_swp (it_a ks_swp S r).1 r i).1 r i) 0 = false := by
                cases hb : ks_same (it_r ks_swp (it_a ks_swp S r).1 r i).1 (ks_F (it_r ks_swp (it_a ks_swp S r).1 r i).1 r i) 0
                · rfl
                · rw [hv1, hb] at h3; exact absurd h3 (by decide)
              have es : ks_swp (it_r ks_swp (it_a ks_swp S r).1 r i).1 r i = ((it_r ks_swp (it_a ks_swp S r).1 r i).1, 0) := swp_f e
              have e1 : (it_r ks_swp (it_a ks_swp S r).1 r (i + 1)).1 = (it_r ks_swp (it_a ks_swp S r).1 r i).1 := by show (ks_swp (it_r ks_swp (it_a ks_swp S r).1 r i).1 r i).1 = _; rw [es]
              have e2 : (it_r ks_swp (it_a ks_swp S r).1 r (i + 1)).2 = (it_r ks_swp (it_a ks_swp S r).1 r i).2 := by show (it_r ks_swp (it_a ks_swp S r).1 r i).2 + (ks_swp (it_r ks_swp (it_a ks_swp S r).1 r i).1 r i).2 = _; rw [es]; rfl
              refine lv_iinc (lv' := [(3, .int (nI (i + 1))), (2, .int (nI r)), (1, .int (nI ((it_a ks_swp S r).2 + (it_r ks_swp (it_a ks_swp S r).1 r i).2))), (0, .ref (kg_h G))]) (v := (nI (i + 1))) (k := 0) hx hb dX0_sweep_48 hl rfl (nI_1 _) (by decide) rfl (fun ls hl => ?_)
              refine lv_goto (tgt := 12) hx hb dX0_sweep_51 rfl ?_
              rw [← e1] at hC
              rw [← e2] at hl
              exact ih2 (i + 1) ls H locs (by omega) hl hC
            · have e : ks_same (it_r ks_swp (it_a ks_swp S r).1 r i).1 (ks_F (it_r ks_swp (it_a ks_swp S r).1 r i).1 r i) 0 = true := by
                cases hb : ks_same (it_r ks_swp (it_a ks_swp S r).1 r i).1 (ks_F (it_r ks_swp (it_a ks_swp S r).1 r i).1 r i) 0
                · rw [hv1, hb] at h3; exact absurd rfl h3
                · rfl
              have es : ks_swp (it_r ks_swp (it_a ks_swp S r).1 r i).1 r i = (ks_pt (it_r ks_swp (it_a ks_swp S r).1 r i).1 r i 0, kp_w (ks_H (it_r ks_swp (it_a ks_swp S r).1 r i).1) (ks_F (it_r ks_swp (it_a ks_swp S r).1 r i).1 r i)) := swp_t e
              have e1 : (it_r ks_swp (it_a ks_swp S r).1 r (i + 1)).1 = ks_pt (it_r ks_swp (it_a ks_swp S r).1 r i).1 r i 0 := by show (ks_swp (it_r ks_swp (it_a ks_swp S r).1 r i).1 r i).1 = _; rw [es]
              have e2 : (it_r ks_swp (it_a ks_swp S r).1 r (i + 1)).2 = (it_r ks_swp (it_a ks_swp S r).1 r i).2 + kp_w (ks_H (it_r ks_swp (it_a ks_swp S r).1 r i).1) (ks_F (it_r ks_swp (it_a ks_swp S r).1 r i).1 r i) := by show (it_r ks_swp (it_a ks_swp S r).1 r i).2 + (ks_swp (it_r ks_swp (it_a ks_swp S r).1 r i).1 r i).2 = _; rw [es]
              refine lv_iload_n hx hb dX0_sweep_38 rfl (lv_at hl 2 rfl) ?_
              refine lv_aload_n hx hb dX0_sweep_39 rfl (lv_at hl 3 rfl) ?_
              refine lv_iload_n hx hb dX0_sweep_40 rfl (lv_at hl 1 rfl) ?_
              refine lv_iload_n hx hb dX0_sweep_41 rfl (lv_at hl 0 rfl) ?_
              refine lv_iconst (v := (nI 0)) hx hb dX0_sweep_42 (by decide +kernel) ?_
              refine kr_ci (As := [.int (nI r), .int (nI i), .int (nI 0)]) (rest := [.int (nI ((it_a ks_swp S r).2 + (it_r ks_swp (it_a ks_swp S r).1 r i).2))]) ⟨hx, hb, hml, hown, hts⟩ (k0_pointTo l G (it_r ks_swp (it_a ks_swp S r).1 r i).1 r i 0 (by omega) (by omega) (by omega) hF (kv_h1 hJi.1 0 (by omega) (by omega)) (kv_h2 hJi.1 0 (by omega) (by omega))) (cwV 3 hts gX0_51 rfl rfl rfl hX0_pointTo ⟨Nat.le_of_ble_eq_true rfl, Nat.le_of_ble_eq_true rfl⟩) hK hC rfl hl.1 rfl (Nat.le_of_ble_eq_true rfl) dX0_sweep_43 ⟨Nat.zero_le _, Nat.zero_le _⟩ (fun v S1 H locs hp hC => ?_)
              obtain ⟨rfl, hS1⟩ := hp
              rw [hS1, ← e1] at hC
              refine wn_add hx hb dX0_sweep_46 ?_
              refine lv_istore_n (lv' := [(1, .int (nI (((it_a ks_swp S r).2 + (it_r ks_swp (it_a ks_swp S r).1 r i).2) + (kp_w (kp_h (ks_H (it_r ks_swp (it_a ks_swp S r).1 r i).1) 0) (ks_F (it_r ks_swp (it_a ks_swp S r).1 r i).1 r i))))), (3, .int (nI i)), (2, .int (nI r)), (0, .ref (kg_h G))]) hx hb dX0_sweep_47 rfl hl (by decide) rfl (fun ls hl => ?_)
              refine lv_iinc (lv' := [(3, .int (nI (i + 1))), (1, .int (nI (((it_a ks_swp S r).2 + (it_r ks_swp (it_a ks_swp S r).1 r i).2) + (kp_w (kp_h (ks_H (it_r ks_swp (it_a ks_swp S r).1 r i).1) 0) (ks_F (it_r ks_swp (it_a ks_swp S r).1 r i).1 r i))))), (2, .int (nI r)), (0, .ref (kg_h G))]) (v := (nI (i + 1))) (k := 1) hx hb dX0_sweep_48 hl rfl (nI_1 _) (by decide) rfl (fun ls hl => ?_)
              refine lv_goto (tgt := 12) hx hb dX0_sweep_51 rfl ?_
              have e3 : (it_a ks_swp S r).2 + (it_r ks_swp (it_a ks_swp S r).1 r i).2 + kp_w (kp_h (ks_H (it_r ks_swp (it_a ks_swp S r).1 r i).1) 0) (ks_F (it_r ks_swp (it_a ks_swp S r).1 r i).1 r i) = (it_a ks_swp S r).2 + (it_r ks_swp (it_a ks_swp S r).1 r (i + 1)).2 := by rw [e2, Nat.add_assoc]; rfl
              rw [e3] at hl
              have hl := lv_sub (l' := [(3, .int (nI (i + 1))), (2, .int (nI r)), (1, .int (nI ((it_a ks_swp S r).2 + (it_r ks_swp (it_a ks_swp S r).1 r (i + 1)).2))), (0, .ref (kg_h G))]) hl [0, 2, 1, 3] rfl
              exact ih2 (i + 1) ls H locs (by omega) hl hC
        exact loop2 k 0 ls H locs (by omega) hl hC
  exact loop 40 0 ls s.heap [] rfl hl hC
set_option maxHeartbeats 4000000 in
set_option maxRecDepth 100000 in
/-- merge() -/
theorem k0_merge (l : Launch) (G : kg_T) (S : ks_T) (hP : ∀ r, r < 40 → ks_P S r ≤ 33) (hV : kv_c S) : Met l yX0_merge wX0_merge ({ frames := 3, cells := 0, slots := 0, locals := 96 }) (va_Pc [.ref (kg_h G)] (kc_p G S)) (va_Qi (fun (v : Int32) (S' : ks_T) => ∃ o, (∀ f, f < 201 → o f = nI (ks_ke S f)) ∧ v = nI (it_a (ks_mrg (ks_ke S)) (ks_uK S o) 40).2 ∧ S' = (it_a (ks_mrg (ks_ke S)) (ks_uK S o) 40).1) (kc_q G) (kg_A G)) 0 0 (kg_A G) := by
  refine Met.ofW (cc := cX0_merge) (maxL := 4) (ret := (some .int)) (by decide) rfl ?_
  intro p e s m args below meth c s₁ B hml hv
  obtain ⟨rfl, hv⟩ := hv
  have hx := B.exec
  have hb := B.bytes
  have hr := B.returns
  have hlk := B.notSynchronized
  have hts := atoms_spec (ws := wX0_merge) B.pre
  have hT : ∀ w ∈ nw_T, w.before _ s = true := fun w h => hts w (List.mem_cons_of_mem _ h)
  have hown : s.vm.findClass RX0 = some m.cls := findClass_of_methodNamed B.named
  have hK : kc_K G s := hv.2.2
  have hC := kc_start hv
  have hl := lv_entry ([.ref (kg_h G)]) (n := 4) (Nat.le_of_ble_eq_true rfl)
  rw [lg_entry_eq]
  generalize (lg_sl ([.ref (kg_h G)]) ++ List.replicate (4 - (lg_sl ([.ref (kg_h G)])).length) Slot.unset).toArray = ls at hl ⊢
  have hl : lv_has ls 4 [(0, .ref (kg_h G))] := hl
  refine lv_aload_n hx hb dX0_merge_0 rfl (lv_at hl 0 rfl) ?_
  refine kr_cv (As := []) (rest := []) ⟨hx, hb, hml, hown, hts⟩ (k0_findKeepers l G S hV) (cwV 0 hts gX0_86 rfl rfl rfl hX0_findKeepers ⟨Nat.le_of_ble_eq_true rfl, Nat.le_of_ble_eq_true rfl⟩) hK hC rfl hl.1 rfl (Nat.le_of_ble_eq_true rfl) dX0_merge_1 ⟨Nat.zero_le _, Nat.zero_le _⟩ (fun S1 H locs hp hC => ?_)
  obtain ⟨o, hS1, ho⟩ := hp
  rw [hS1] at hC
  have hV2 : kv_c (ks_uK S o) := hV
  have hke : ∀ f, f < 201 → ks_ke S f < 201 := fun f hf => ks_ke_lt hV hf
  refine lv_iconst (v := (nI 0)) hx hb dX0_merge_4 (by decide +kernel) ?_
  refine lv_istore_n (lv' := [(1, .int (nI 0)), (0, .ref (kg_h G))]) hx hb dX0_merge_5 rfl hl (by decide) rfl (fun ls hl => ?_)
  refine lv_iconst (v := (nI 0)) hx hb dX0_merge_6 (by decide +kernel) ?_
  refine lv_istore_n (lv' := [(2, .int (nI 0)), (1, .int (nI 0)), (0, .ref (kg_h G))]) hx hb dX0_merge_7 rfl hl (by decide) rfl (fun ls hl => ?_)
  have hI : ∀ n, n ≤ 40 → (kv_c (it_a (ks_mrg (ks_ke S)) (ks_uK S o) n).1 ∧ ks_P (it_a (ks_mrg (ks_ke S)) (ks_uK S o) n).1 = ks_P (ks_uK S o) ∧ ks_K (it_a (ks_mrg (ks_ke S)) (ks_uK S o) n).1 = o) := fun n hn => it_a_I (st := (ks_mrg (ks_ke S))) (S := (ks_uK S o)) (fun T => (kv_c T ∧ ks_P T = ks_P (ks_uK S o) ∧ ks_K T = o)) hP ⟨hV2, rfl, rfl⟩ (fun T r p hr hp h => mrg_I hke hr hp h) n hn
  have loop : ∀ (n r : Nat) (ls : Array Slot) (H : Heap) (locs : List Loc), r + n = 40 → lv_has ls 4 [(2, .int (nI r)), (1, .int (nI ((it_a (ks_mrg (ks_ke S)) (ks_uK S o) r).2))), (0, .ref (kg_h G))] → kc_at G (kg_A G) s.heap (it_a (ks_mrg (ks_ke S)) (ks_uK S o) r).1 H locs → W p l e (headSpec wX0_merge ({ frames := 3, cells := 0, slots := 0, locals := 96 })).room s m [.ref (kg_h G)].toArray below meth c H locs 0 0 (MQ below (va_Qi (fun (v : Int32) (S' : ks_T) => ∃ o, (∀ f, f < 201 → o f = nI (ks_ke S f)) ∧ v = nI (it_a (ks_mrg (ks_ke S)) (ks_uK S o) 40).2 ∧ S' = (it_a (ks_mrg (ks_ke S)) (ks_uK S o) 40).1) (kc_q G) (kg_A G)) [.ref (kg_h G)].toArray s 0 0 (kg_A G)) (F0 m 8 ls []) := by
    intro n
    induction n with
    | zero =>
      intro r ls H locs hm hl hC
      refine lv_iload_n hx hb dX0_merge_8 rfl (lv_at hl 0 rfl) ?_
      refine lv_bipush (v := (nI 40)) hx hb dX0_merge_9 (by decide +kernel) ?_
      refine wn_ge (tgt := 60) hx hb (by omega) (by omega) dX0_merge_11 rfl (fun _ => ?_) (fun h9 => absurd h9 (by omega))
      obtain rfl : r = 40 := by omega
      refine lv_iload_n hx hb dX0_merge_60 rfl (lv_at hl 1 rfl) ?_
      exact kr_iret hx hb hr hlk hC (⟨o, ho, rfl, rfl⟩) dX0_merge_61
    | succ n ih =>
      intro r ls H locs hm hl hC
      refine lv_iload_n hx hb dX0_merge_8 rfl (lv_at hl 0 rfl) ?_
      refine lv_bipush (v := (nI 40)) hx hb dX0_merge_9 (by decide +kernel) ?_
      refine wn_ge (tgt := 60) hx hb (by omega) (by omega) dX0_merge_11 rfl (fun h9 => absurd h9 (by omega)) (fun _ => ?_)
      refine lv_iconst (v := (nI 0)) hx hb dX0_merge_14 (by decide +kernel) ?_
      refine lv_istore_n (lv' := [(3, .int (nI 0)), (2, .int (nI r)), (1, .int (nI ((it_a (ks_mrg (ks_ke S)) (ks_uK S o) r).2))), (0, .ref (kg_h G))]) hx hb dX0_merge_15 rfl hl (by decide) rfl (fun ls hl => ?_)
      have hgo : ∀ (ls : Array Slot) (H : Heap) (locs : List Loc), lv_has ls 4 [(1, .int (nI ((it_a (ks_mrg (ks_ke S)) (ks_uK S o) r).2 + (it_r (ks_mrg (ks_ke S)) (it_a (ks_mrg (ks_ke S)) (ks_uK S o) r).1 r (ks_P (ks_uK S o) r - 1)).2))), (2, .int (nI r)), (0, .ref (kg_h G))] → kc_at G (kg_A G) s.heap (it_r (ks_mrg (ks_ke S)) (it_a (ks_mrg (ks_ke S)) (ks_uK S o) r).1 r (ks_P (ks_uK S o) r - 1)).1 H locs → W p l e (headSpec wX0_merge ({ frames := 3, cells := 0, slots := 0, locals := 96 })).room s m [.ref (kg_h G)].toArray below meth c H locs 0 0 (MQ below (va_Qi (fun (v : Int32) (S' : ks_T) => ∃ o, (∀ f, f < 201 → o f = nI (ks_ke S f)) ∧ v = nI (it_a (ks_mrg (ks_ke S)) (ks_uK S o) 40).2 ∧ S' = (it_a (ks_mrg (ks_ke S)) (ks_uK S o) 40).1) (kc_q G) (kg_A G)) [.ref (kg_h G)].toArray s 0 0 (kg_A G)) (F0 m 54 ls []) := by
        intro ls H locs hl hC
        refine lv_iinc (lv' := [(2, .int (nI (r + 1))), (1, .int (nI ((it_a (ks_mrg (ks_ke S)) (ks_uK S o) r).2 + (it_r (ks_mrg (ks_ke S)) (it_a (ks_mrg (ks_ke S)) (ks_uK S o) r).1 r (ks_P (ks_uK S o) r - 1)).2))), (0, .ref (kg_h G))]) (v := (nI (r + 1))) (k := 1) hx hb dX0_merge_54 hl rfl (nI_1 _) (by decide) rfl (fun ls hl => ?_)
        refine lv_goto (tgt := 8) hx hb dX0_merge_57 rfl ?_
        exact ih (r + 1) ls H locs (by omega) hl hC
      have hIr := hI r (by omega)
      have h33 : ks_P (ks_uK S o) r ≤ 33 := hP r (by omega)
      by_cases hr0 : ks_P (ks_uK S o) r = 0
      · refine lv_iload_n hx hb dX0_merge_16 rfl (lv_at hl 0 rfl) ?_
        refine lv_aload_n hx hb dX0_merge_17 rfl (lv_at hl 3 rfl) ?_
        refine kr_get hx hb hT kx_in hown hK hC 0 (by decide) (hT _ mw_25) rfl rfl dX0_merge_18 ?_
        refine lv_iload_n hx hb dX0_merge_21 rfl (lv_at hl 1 rfl) ?_
        refine kr_ldP hx hb hK hC (by omega) dX0_merge_22 ?_
        have e1 : ks_e (ks_P (it_a (ks_mrg (ks_ke S)) (ks_uK S o) r).1 r) = -1 := by rw [hIr.2.1]; show ks_e (ks_P (ks_uK S o) r) = -1; rw [hr0]; rfl
        rw [e1]
        refine lv_icmp_ge (tgt := 54) hx hb dX0_merge_23 rfl (fun _ => ?_) (fun h9 => absurd (show (-1 : Int32) ≤ nI 0 by decide +kernel) h9)
        have e2 : ks_P (ks_uK S o) r - 1 = 0 := by omega
        rw [e2] at hgo
        have hl := lv_sub (l' := [(1, .int (nI ((it_a (ks_mrg (ks_ke S)) (ks_uK S o) r).2 + 0))), (2, .int (nI r)), (0, .ref (kg_h G))]) hl [2, 1, 3] rfl
        exact hgo ls H locs hl hC
      · obtain ⟨k, hk⟩ : ∃ k, ks_P (ks_uK S o) r = k + 1 := ⟨ks_P (ks_uK S o) r - 1, by omega⟩
        have e2 : ks_P (ks_uK S o) r - 1 = k := by omega
        rw [e2] at hgo
        have hJ : ∀ n, n ≤ 32 → (kv_c (it_r (ks_mrg (ks_ke S)) (it_a (ks_mrg (ks_ke S)) (ks_uK S o) r).1 r n).1 ∧ ks_P (it_r (ks_mrg (ks_ke S)) (it_a (ks_mrg (ks_ke S)) (ks_uK S o) r).1 r n).1 = ks_P (ks_uK S o) ∧ ks_K (it_r (ks_mrg (ks_ke S)) (it_a (ks_mrg (ks_ke S)) (ks_uK S o) r).1 r n).1 = o) := fun n hn => it_r_I (fun T => (kv_c T ∧ ks_P T = ks_P (ks_uK S o) ∧ ks_K T = o)) hIr (fun T p hp h => mrg_I hke (by omega) hp h) n hn
        have loop2 : ∀ (n2 i : Nat) (ls : Array Slot) (H : Heap) (locs : List Loc), i + n2 = k → lv_has ls 4 [(3, .int (nI i)), (2, .int (nI r)), (1, .int (nI ((it_a (ks_mrg (ks_ke S)) (ks_uK S o) r).2 + (it_r (ks_mrg (ks_ke S)) (it_a (ks_mrg (ks_ke S)) (ks_uK S o) r).1 r i).2))), (0, .ref (kg_h G))] → kc_at G (kg_A G) s.heap (it_r (ks_mrg (ks_ke S)) (it_a (ks_mrg (ks_ke S)) (ks_uK S o) r).1 r i).1 H locs → W p l e (headSpec wX0_merge ({ frames := 3, cells := 0, slots := 0, locals := 96 })).room s m [.ref (kg_h G)].toArray below meth c H locs 0 0 (MQ below (va_Qi (fun (v : Int32) (S' : ks_T) => ∃ o, (∀ f, f < 201 → o f = nI (ks_ke S f)) ∧ v = nI (it_a (ks_mrg (ks_ke S)) (ks_uK S o) 40).2 ∧ S' = (it_a (ks_mrg (ks_ke S)) (ks_uK S o) 40).1) (kc_q G) (kg_A G)) [.ref (kg_h G)].toArray s 0 0 (kg_A G)) (F0 m 16 ls []) := by
          intro n2
          induction n2 with
          | zero =>
            intro i ls H locs hm2 hl hC
            have hJi := hJ i (by omega)
            have ek : ks_e (ks_P (it_r (ks_mrg (ks_ke S)) (it_a (ks_mrg (ks_ke S)) (ks_uK S o) r).1 r i).1 r) = nI k := by rw [hJi.2.1]; show ks_e (ks_P (ks_uK S o) r) = nI k; rw [ks_es (by omega), hk]; rfl
            refine lv_iload_n hx hb dX0_merge_16 rfl (lv_at hl 0 rfl) ?_
            refine lv_aload_n hx hb dX0_merge_17 rfl (lv_at hl 3 rfl) ?_
            refine kr_get hx hb hT kx_in hown hK hC 0 (by decide) (hT _ mw_25) rfl rfl dX0_merge_18 ?_
            refine lv_iload_n hx hb dX0_merge_21 rfl (lv_at hl 1 rfl) ?_
            refine kr_ldP hx hb hK hC (by omega) dX0_merge_22 ?_
            rw [ek]
            refine wn_ge (tgt := 54) hx hb (by omega) (by omega) dX0_merge_23 rfl (fun _ => ?_) (fun h9 => absurd h9 (by omega))
            obtain rfl : i = k := by omega
            have hl := lv_sub (l' := [(1, .int (nI ((it_a (ks_mrg (ks_ke S)) (ks_uK S o) r).2 + (it_r (ks_mrg (ks_ke S)) (it_a (ks_mrg (ks_ke S)) (ks_uK S o) r).1 r i).2))), (2, .int (nI r)), (0, .ref (kg_h G))]) hl [2, 1, 3] rfl
            exact hgo ls H locs hl hC
          | succ n2 ih2 =>
            intro i ls H locs hm2 hl hC
            have hJi := hJ i (by omega)
            have ek : ks_e (ks_P (it_r (ks_mrg (ks_ke S)) (it_a (ks_mrg (ks_ke S)) (ks_uK S o) r).1 r i).1 r) = nI k := by rw [hJi.2.1]; show ks_e (ks_P (ks_uK S o) r) = nI k; rw [ks_es (by omega), hk]; rfl
            refine lv_iload_n hx hb dX0_merge_16 rfl (lv_at hl 0 rfl) ?_
            refine lv_aload_n hx hb dX0_merge_17 rfl (lv_at hl 3 rfl) ?_
            refine kr_get hx hb hT kx_in hown hK hC 0 (by decide) (hT _ mw_25) rfl rfl dX0_merge_18 ?_
            refine lv_iload_n hx hb dX0_merge_21 rfl (lv_at hl 1 rfl) ?_
            refine kr_ldP hx hb hK hC (by omega) dX0_merge_22 ?_
            rw [ek]
            refine wn_ge (tgt := 54) hx hb (by omega) (by omega) dX0_merge_23 rfl (fun h9 => absurd h9 (by omega)) (fun _ => ?_)
            have hF : ks_F (it_r (ks_mrg (ks_ke S)) (it_a (ks_mrg (ks_ke S)) (ks_uK S o) r).1 r i).1 r i < 201 := hJi.1.1 r i (by omega) (by omega)
            have eK : ks_K (it_r (ks_mrg (ks_ke S)) (it_a (ks_mrg (ks_ke S)) (ks_uK S o) r).1 r i).1 (ks_F (it_r (ks_mrg (ks_ke S)) (it_a (ks_mrg (ks_ke S)) (ks_uK S o) r).1 r i).1 r i) = nI (ks_ke S (ks_F (it_r (ks_mrg (ks_ke S)) (it_a (ks_mrg (ks_ke S)) (ks_uK S o) r).1 r i).1 r i)) := by rw [hJi.2.2]; exact ho _ hF
            refine lv_iload_n hx hb dX0_merge_26 rfl (lv_at hl 2 rfl) ?_
            refine lv_aload_n hx hb dX0_merge_27 rfl (lv_at hl 3 rfl) ?_
            refine lv_iload_n hx hb dX0_merge_28 rfl (lv_at hl 1 rfl) ?_
            refine lv_iload_n hx hb dX0_merge_29 rfl (lv_at hl 0 rfl) ?_
            refine lv_aload_n hx hb dX0_merge_30 rfl (lv_at hl 3 rfl) ?_
            refine kr_get hx hb hT kx_in hown hK hC 6 (by decide) (hT _ mw_31) rfl rfl dX0_merge_31 ?_
            refine lv_aload_n hx hb dX0_merge_34 rfl (lv_at hl 3 rfl) ?_
            refine kr_get hx hb hT kx_in hown hK hC 1 (by decide) (hT _ mw_26) rfl rfl dX0_merge_35 ?_
            refine lv_iload_n hx hb dX0_merge_38 rfl (lv_at hl 1 rfl) ?_
            refine kr_aF hx hb hK hC (by omega) dX0_merge_39 ?_
            refine lv_iload_n hx hb dX0_merge_40 rfl (lv_at hl 0 rfl) ?_
            refine kr_ldF hx hb hK hC (by omega) (by omega) dX0_merge_41 ?_
            refine kr_ldK hx hb hK hC (by omega) dX0_merge_42 ?_
            rw [eK]
            refine kr_ci (As := [.int (nI r), .int (nI i), .int (nI (ks_ke S (ks_F (it_r (ks_mrg (ks_ke S)) (it_a (ks_mrg (ks_ke S)) (ks_uK S o) r).1 r i).1 r i)))]) (rest := [.int (nI ((it_a (ks_mrg (ks_ke S)) (ks_uK S o) r).2 + (it_r (ks_mrg (ks_ke S)) (it_a (ks_mrg (ks_ke S)) (ks_uK S o) r).1 r i).2))]) ⟨hx, hb, hml, hown, hts⟩ (k0_pointTo l G (it_r (ks_mrg (ks_ke S)) (it_a (ks_mrg (ks_ke S)) (ks_uK S o) r).1 r i).1 r i (ks_ke S (ks_F (it_r (ks_mrg (ks_ke S)) (it_a (ks_mrg (ks_ke S)) (ks_uK S o) r).1 r i).1 r i)) (by omega) (by omega) (hke _ hF) hF (kv_h1 hJi.1 _ (by omega) (by omega)) (kv_h2 hJi.1 _ (by omega) (by omega))) (cwV 3 hts gX0_51 rfl rfl rfl hX0_pointTo ⟨Nat.le_of_ble_eq_true rfl, Nat.le_of_ble_eq_true rfl⟩) hK hC rfl hl.1 rfl (Nat.le_of_ble_eq_true rfl) dX0_merge_43 ⟨Nat.zero_le _, Nat.zero_le _⟩ (fun v S1 H locs hp hC => ?_)
            obtain ⟨rfl, hS1⟩ := hp
            rw [hS1] at hC
            refine wn_add hx hb dX0_merge_46 ?_
            refine lv_istore_n (lv' := [(1, .int (nI (((it_a (ks_mrg (ks_ke S)) (ks_uK S o) r).2 + (it_r (ks_mrg (ks_ke S)) (it_a (ks_mrg (ks_ke S)) (ks_uK S o) r).1 r i).2) + (kp_w (kp_h (ks_H (it_r (ks_mrg (ks_ke S)) (it_a (ks_mrg (ks_ke S)) (ks_uK S o) r).1 r i).1) (ks_ke S (ks_F (it_r (ks_mrg (ks_ke S)) (it_a (ks_mrg (ks_ke S)) (ks_uK S o) r).1 r i).1 r i))) (ks_F (it_r (ks_mrg (ks_ke S)) (it_a (ks_mrg (ks_ke S)) (ks_uK S o) r).1 r i).1 r i))))), (3, .int (nI i)), (2, .int (nI r)), (0, .ref (kg_h G))]) hx hb dX0_merge_47 rfl hl (by decide) rfl (fun ls hl => ?_)
            refine lv_iinc (lv' := [(3, .int (nI (i + 1))), (1, .int (nI (((it_a (ks_mrg (ks_ke S)) (ks_uK S o) r).2 + (it_r (ks_mrg (ks_ke S)) (it_a (ks_mrg (ks_ke S)) (ks_uK S o) r).1 r i).2) + (kp_w (kp_h (ks_H (it_r (ks_mrg (ks_ke S)) (it_a (ks_mrg (ks_ke S)) (ks_uK S o) r).1 r i).1) (ks_ke S (ks_F (it_r (ks_mrg (ks_ke S)) (it_a (ks_mrg (ks_ke S)) (ks_uK S o) r).1 r i).1 r i))) (ks_F (it_r (ks_mrg (ks_ke S)) (it_a (ks_mrg (ks_ke S)) (ks_uK S o) r).1 r i).1 r i))))), (2, .int (nI r)), (0, .ref (kg_h G))]) (v := (nI (i + 1))) (k := 1) hx hb dX0_merge_48 hl rfl (nI_1 _) (by decide) rfl (fun ls hl => ?_)
            refine lv_goto (tgt := 16) hx hb dX0_merge_51 rfl ?_
            have e3 : (it_a (ks_mrg (ks_ke S)) (ks_uK S o) r).2 + (it_r (ks_mrg (ks_ke S)) (it_a (ks_mrg (ks_ke S)) (ks_uK S o) r).1 r i).2 + kp_w (kp_h (ks_H (it_r (ks_mrg (ks_ke S)) (it_a (ks_mrg (ks_ke S)) (ks_uK S o) r).1 r i).1) (ks_ke S (ks_F (it_r (ks_mrg (ks_ke S)) (it_a (ks_mrg (ks_ke S)) (ks_uK S o) r).1 r i).1 r i))) (ks_F (it_r (ks_mrg (ks_ke S)) (it_a (ks_mrg (ks_ke S)) (ks_uK S o) r).1 r i).1 r i) = (it_a (ks_mrg (ks_ke S)) (ks_uK S o) r).2 + (it_r (ks_mrg (ks_ke S)) (it_a (ks_mrg (ks_ke S)) (ks_uK S o) r).1 r (i + 1)).2 := by rw [Nat.add_assoc]; rfl
            rw [e3] at hl
            have hl := lv_sub (l' := [(3, .int (nI (i + 1))), (2, .int (nI r)), (1, .int (nI ((it_a (ks_mrg (ks_ke S)) (ks_uK S o) r).2 + (it_r (ks_mrg (ks_ke S)) (it_a (ks_mrg (ks_ke S)) (ks_uK S o) r).1 r (i + 1)).2))), (0, .ref (kg_h G))]) hl [0, 2, 1, 3] rfl
            exact ih2 (i + 1) ls H locs (by omega) hl hC
        exact loop2 k 0 ls H locs (by omega) hl hC
  exact loop 40 0 ls H locs rfl hl hC
set_option maxHeartbeats 4000000 in
set_option maxRecDepth 100000 in
/-- about(x, y) -/
theorem k0_about (l : Launch) (hl0 : l.stackTraces = false) (G : kg_T) (S : ks_T) (x y : Int32) (hP : ∀ r, r < 40 → ks_P S r ≤ 33) (hV : kv_c S) : vx_Met l yX0_about wX0_about ({ frames := 7, cells := 2, slots := 12, locals := 122 }) (va_Pc [.ref (kg_h G), .int x, .int y] (kc_px G S)) (va_Qi (fun (v : Int32) (S' : ks_T) => ∃ j k, j < 40 ∧ x = nI j ∧ ks_P S j = k + 1 ∧ ((y = nI 0 ∧ v = nI k ∧ S' = S) ∨ (y = nI 1 ∧ v = nI (ct_b (fun p => decide (ks_F S j p = 0)) k) ∧ S' = S) ∨ (y = nI 2 ∧ v = nI (ct_b (fun p => decide (ks_F S j p ≠ 0) && ks_fst S j p) k) ∧ S' = S) ∨ (y = nI 3 ∧ ∃ o, S' = ks_uO S o ∧ v = nI (ct_b (fun i => decide (o (i + 1) = nI j)) 200) ∧ ∀ f, f < 201 → ow_ok (ks_F S) (fun a b => a < 40 ∧ b + 1 < ks_P S a) f (o f)) ∨ (y = nI 4 ∧ v = su_r (fun p => ks_C S (ks_F S j p)) k ∧ S' = S))) (kc_q G) (kg_A G)) (kc_xx G S (fun E : String => (E = kx_nse ∧ ks_row S x = false) ∨ (E = kx_iae ∧ ks_row S x = true ∧ (y.toInt < 0 ∨ 5 ≤ y.toInt)))) 2 12 (kg_A G) := by
  refine vx_ofW (cc := cX0_about) (maxL := 3) (ret := (some .int)) (by decide) rfl ?_
  intro p e s m args below meth c s₁ B hml ht hv
  obtain ⟨rfl, hv⟩ := hv
  have hx := B.exec
  have hb := B.bytes
  have hr := B.returns
  have hlk := B.notSynchronized
  have hts := atoms_spec (ws := wX0_about) B.pre
  have hT : ∀ w ∈ nw_T, w.before _ s = true := fun w h => hts w (List.mem_cons_of_mem _ h)
  have hown : s.vm.findClass RX0 = some m.cls := findClass_of_methodNamed B.named
  have hK : kc_K G s := hv.1.2.2
  have hX := hv.2
  have hC := kc_start hv.1
  have hl := lv_entry ([.ref (kg_h G), .int x, .int y]) (n := 3) (Nat.le_of_ble_eq_true rfl)
  rw [lg_entry_eq]
  generalize (lg_sl ([.ref (kg_h G), .int x, .int y]) ++ List.replicate (3 - (lg_sl ([.ref (kg_h G), .int x, .int y])).length) Slot.unset).toArray = ls at hl ⊢
  have hl : lv_has ls 3 [(0, .ref (kg_h G)), (1, .int x), (2, .int y)] := hl
  refine lv_aload_n hx hb dX0_about_0 rfl (lv_at hl 0 rfl) ?_
  refine lv_iload_n hx hb dX0_about_1 rfl (lv_at hl 1 rfl) ?_
  refine kr_xv (As := [.int x]) (rest := []) ⟨hx, hb, hml, hown, hts⟩ (k0_requireRow l hl0 G S x hP) (cwV 1 hts gX0_55 rfl rfl rfl hX0_requireRow ⟨Nat.le_of_ble_eq_true rfl, Nat.le_of_ble_eq_true rfl⟩) hK hX hC rfl hl.1 rfl (Nat.le_of_ble_eq_true rfl) dX0_about_2 ⟨Nat.le_of_ble_eq_true rfl, Nat.le_of_ble_eq_true rfl⟩ (fun E ce q9 H locs hpe hC hce hcv hcl => kr_out ht hlk (Or.inl hpe) hC hce hcv hcl (Nat.le_of_ble_eq_true rfl) (Nat.le_of_ble_eq_true rfl)) (fun S1 H locs hp hC => ?_)
  obtain ⟨hc1, hS1⟩ := hp
  rw [hS1] at hC
  obtain ⟨j, hj, rfl, hj0⟩ := ks_row_ex hc1
  obtain ⟨k, hk⟩ : ∃ k, ks_P S j = k + 1 := ⟨ks_P S j - 1, by omega⟩
  have h33 := hP j hj
  have ek : ks_e (ks_P S j) = nI k := by rw [ks_es (by omega), hk]; rfl
  refine lv_iload_n hx hb dX0_about_5 rfl (lv_at hl 2 rfl) ?_
  rcases sw_n y (n := 5) (by omega) with ⟨i, hi, rfl⟩ | ho
  · obtain rfl | rfl | rfl | rfl | rfl : i = 0 ∨ i = 1 ∨ i = 2 ∨ i = 3 ∨ i = 4 := by omega
    · refine lv_tableIn (off := 34) (tgt := 40) hx hb dX0_about_6 (by decide +kernel) (by decide +kernel) (by decide +kernel) rfl ?_
      refine lv_aload_n hx hb dX0_about_40 rfl (lv_at hl 0 rfl) ?_
      refine kr_get hx hb hT kx_in hown hK hC 0 (by decide) (hT _ mw_25) rfl rfl dX0_about_41 ?_
      refine lv_iload_n hx hb dX0_about_44 rfl (lv_at hl 1 rfl) ?_
      refine kr_ldP hx hb hK hC (by omega) dX0_about_45 ?_
      rw [ek]
      exact kr_xiret hx hb hr hlk hC (⟨j, k, hj, rfl, hk, Or.inl ⟨rfl, rfl, rfl⟩⟩) dX0_about_46 (Nat.le_of_ble_eq_true rfl) (Nat.le_of_ble_eq_true rfl)
    · refine lv_tableIn (off := 41) (tgt := 47) hx hb dX0_about_6 (by decide +kernel) (by decide +kernel) (by decide +kernel) rfl ?_
      refine lv_aload_n hx hb dX0_about_47 rfl (lv_at hl 0 rfl) ?_
      refine lv_iload_n hx hb dX0_about_48 rfl (lv_at hl 1 rfl) ?_
      refine kr_ci (As := [.int (nI j)]) (rest := []) ⟨hx, hb, hml, hown, hts⟩ (k0_blankPages l G S j k hj hk (by omega) hV) (cwV 1 hts gX0_89 rfl rfl rfl hX0_blankPages ⟨Nat.le_of_ble_eq_true rfl, Nat.le_of_ble_eq_true rfl⟩) hK hC rfl hl.1 rfl (Nat.le_of_ble_eq_true rfl) dX0_about_49 ⟨Nat.le_of_ble_eq_true rfl, Nat.le_of_ble_eq_true rfl⟩ (fun v S1 H locs hp hC => ?_)
      obtain ⟨hv1, hS1⟩ := hp
      rw [hS1] at hC
      exact kr_xiret hx hb hr hlk hC (⟨j, k, hj, rfl, hk, Or.inr (Or.inl ⟨rfl, hv1, rfl⟩)⟩) dX0_about_52 (Nat.le_of_ble_eq_true rfl) (Nat.le_of_ble_eq_true rfl)
    · refine lv_tableIn (off := 47) (tgt := 53) hx hb dX0_about_6 (by decide +kernel) (by decide +kernel) (by decide +kernel) rfl ?_
      refine lv_aload_n hx hb dX0_about_53 rfl (lv_at hl 0 rfl) ?_
      refine lv_iload_n hx hb dX0_about_54 rfl (lv_at hl 1 rfl) ?_
      refine kr_ci (As := [.int (nI j)]) (rest := []) ⟨hx, hb, hml, hown, hts⟩ (k0_framesOf l G S j k hj hk (by omega) hV) (cwV 1 hts gX0_92 rfl rfl rfl hX0_framesOf ⟨Nat.le_of_ble_eq_true rfl, Nat.le_of_ble_eq_true rfl⟩) hK hC rfl hl.1 rfl (Nat.le_of_ble_eq_true rfl) dX0_about_55 ⟨Nat.le_of_ble_eq_true rfl, Nat.le_of_ble_eq_true rfl⟩ (fun v S1 H locs hp hC => ?_)
      obtain ⟨hv1, hS1⟩ := hp
      rw [hS1] at hC
      exact kr_xiret hx hb hr hlk hC (⟨j, k, hj, rfl, hk, Or.inr (Or.inr (Or.inl ⟨rfl, hv1, rfl⟩))⟩) dX0_about_58 (Nat.le_of_ble_eq_true rfl) (Nat.le_of_ble_eq_true rfl)
    · refine lv_tableIn (off := 53) (tgt := 59) hx hb dX0_about_6 (by decide +kernel) (by decide +kernel) (by decide +kernel) rfl ?_
      refine lv_aload_n hx hb dX0_about_59 rfl (lv_at hl 0 rfl) ?_
      refine lv_iload_n hx hb dX0_about_60 rfl (lv_at hl 1 rfl) ?_
      refine kr_ci (As := [.int (nI j)]) (rest := []) ⟨hx, hb, hml, hown, hts⟩ (k0_framesOwnedBy l G S (nI j) hP hV) (cwV 1 hts gX0_95 rfl rfl rfl hX0_framesOwnedBy ⟨Nat.le_of_ble_eq_true rfl, Nat.le_of_ble_eq_true rfl⟩) hK hC rfl hl.1 rfl (Nat.le_of_ble_eq_true rfl) dX0_about_61 ⟨Nat.le_of_ble_eq_true rfl, Nat.le_of_ble_eq_true rfl⟩ (fun v S1 H locs hp hC => ?_)
      obtain ⟨o, hS1, hv1, ho⟩ := hp
      rw [hS1] at hC
      exact kr_xiret hx hb hr hlk hC (⟨j, k, hj, rfl, hk, Or.inr (Or.inr (Or.inr (Or.inl ⟨rfl, o, rfl, hv1, ho⟩)))⟩) dX0_about_64 (Nat.le_of_ble_eq_true rfl) (Nat.le_of_ble_eq_true rfl)
    · refine lv_tableIn (off := 59) (tgt := 65) hx hb dX0_about_6 (by decide +kernel) (by decide +kernel) (by decide +kernel) rfl ?_
      refine lv_aload_n hx hb dX0_about_65 rfl (lv_at hl 0 rfl) ?_
      refine lv_iload_n hx hb dX0_about_66 rfl (lv_at hl 1 rfl) ?_
      refine kr_ci (As := [.int (nI j)]) (rest := []) ⟨hx, hb, hml, hown, hts⟩ (k0_sumOfCells l G S j k hj hk (by omega) hV) (cwV 1 hts gX0_98 rfl rfl rfl hX0_sumOfCells ⟨Nat.le_of_ble_eq_true rfl, Nat.le_of_ble_eq_true rfl⟩) hK hC rfl hl.1 rfl (Nat.le_of_ble_eq_true rfl) dX0_about_67 ⟨Nat.le_of_ble_eq_true rfl, Nat.le_of_ble_eq_true rfl⟩ (fun v S1 H locs hp hC => ?_)
      obtain ⟨hv1, hS1⟩ := hp
      rw [hS1] at hC
      exact kr_xiret hx hb hr hlk hC (⟨j, k, hj, rfl, hk, Or.inr (Or.inr (Or.inr (Or.inr (⟨rfl, hv1, rfl⟩))))⟩) dX0_about_70 (Nat.le_of_ble_eq_true rfl) (Nat.le_of_ble_eq_true rfl)
  · refine lv_tableOut (tgt := 71) hx hb dX0_about_6 (by omega) rfl ?_
    exact kr_th kx_iaeOk hx hb hl0 hown hT hX hC (hl.1.trans hml.symm) ht dX0_about_71 dX0_about_74 dX0_about_75 dX0_about_78 (Nat.le_of_ble_eq_true rfl) (Nat.le_of_ble_eq_true rfl) (Nat.le_of_ble_eq_true rfl) (Nat.le_of_ble_eq_true rfl) hlk (Or.inr ⟨rfl, hc1, ho⟩) (Nat.le_of_ble_eq_true rfl) (Nat.le_of_ble_eq_true rfl)
set_option maxHeartbeats 4000000 in
set_option maxRecDepth 100000 in
/-- count(x) -/
theorem k0_count (l : Launch) (G : kg_T) (S : ks_T) (x : Int32) (hP : ∀ r, r < 40 → ks_P S r ≤ 33) (hV : kv_c S) : Met l yX0_count wX0_count ({ frames := 3, cells := 0, slots := 0, locals := 96 }) (va_Pc [.ref (kg_h G), .int x] (kc_p G S)) (va_Qi (fun (v : Int32) (S' : ks_T) => (x = nI 0 ∧ v = nI (ct_b (fun r => decide (ks_P S r ≠ 0)) 40) ∧ S' = S) ∨ (x = nI 1 ∧ v = nI (ct_s (fun r => ks_P S r - 1) 40) ∧ S' = S) ∨ (x = nI 2 ∧ v = nI (nz_f (ks_H S)) ∧ S' = S) ∨ (x = nI 3 ∧ ∃ o, S' = ks_uO S o ∧ v = nI (ct_b (fun i => decide (o (i + 1) = -2)) 200) ∧ ∀ f, f < 201 → ow_ok (ks_F S) (fun a b => a < 40 ∧ b + 1 < ks_P S a) f (o f)) ∨ ((x.toInt < 0 ∨ 4 ≤ x.toInt) ∧ v = -1 ∧ S' = S)) (kc_q G) (kg_A G)) 0 0 (kg_A G) := by
  refine Met.ofW (cc := cX0_count) (maxL := 2) (ret := (some .int)) (by decide) rfl ?_
  intro p e s m args below meth c s₁ B hml hv
  obtain ⟨rfl, hv⟩ := hv
  have hx := B.exec
  have hb := B.bytes
  have hr := B.returns
  have hlk := B.notSynchronized
  have hts := atoms_spec (ws := wX0_count) B.pre
  have hT : ∀ w ∈ nw_T, w.before _ s = true := fun w h => hts w (List.mem_cons_of_mem _ h)
  have hown : s.vm.findClass RX0 = some m.cls := findClass_of_methodNamed B.named
  have hK : kc_K G s := hv.2.2
  have hC := kc_start hv
  have hl := lv_entry ([.ref (kg_h G), .int x]) (n := 2) (Nat.le_of_ble_eq_true rfl)
  rw [lg_entry_eq]
  generalize (lg_sl ([.ref (kg_h G), .int x]) ++ List.replicate (2 - (lg_sl ([.ref (kg_h G), .int x])).length) Slot.unset).toArray = ls at hl ⊢
  have hl : lv_has ls 2 [(0, .ref (kg_h G)), (1, .int x)] := hl
  refine lv_iload_n hx hb dX0_count_0 rfl (lv_at hl 1 rfl) ?_
  rcases sw_n x (n := 4) (by omega) with ⟨i, hi, rfl⟩ | ho
  · obtain rfl | rfl | rfl | rfl : i = 0 ∨ i = 1 ∨ i = 2 ∨ i = 3 := by omega
    · refine lv_tableIn (off := 31) (tgt := 32) hx hb dX0_count_1 (by decide +kernel) (by decide +kernel) (by decide +kernel) rfl ?_
      refine lv_aload_n hx hb dX0_count_32 rfl (lv_at hl 0 rfl) ?_
      refine kr_ci (As := []) (rest := []) ⟨hx, hb, hml, hown, hts⟩ (k0_rowsThere l G S hP) (cwV 0 hts gX0_104 rfl rfl rfl hX0_rowsThere ⟨Nat.le_of_ble_eq_true rfl, Nat.le_of_ble_eq_true rfl⟩) hK hC rfl hl.1 rfl (Nat.le_of_ble_eq_true rfl) dX0_count_33 ⟨Nat.zero_le _, Nat.zero_le _⟩ (fun v S1 H locs hp hC => ?_)
      obtain ⟨hv1, hS1⟩ := hp
      rw [hS1] at hC
      exact kr_iret hx hb hr hlk hC (Or.inl ⟨rfl, hv1, rfl⟩) dX0_count_36
    · refine lv_tableIn (off := 36) (tgt := 37) hx hb dX0_count_1 (by decide +kernel) (by decide +kernel) (by decide +kernel) rfl ?_
      refine lv_aload_n hx hb dX0_count_37 rfl (lv_at hl 0 rfl) ?_
      refine kr_ci (As := []) (rest := []) ⟨hx, hb, hml, hown, hts⟩ (k0_pagesThere l G S hP) (cwV 0 hts gX0_107 rfl rfl rfl hX0_pagesThere ⟨Nat.le_of_ble_eq_true rfl, Nat.le_of_ble_eq_true rfl⟩) hK hC rfl hl.1 rfl (Nat.le_of_ble_eq_true rfl) dX0_count_38 ⟨Nat.zero_le _, Nat.zero_le _⟩ (fun v S1 H locs hp hC => ?_)
      obtain ⟨hv1, hS1⟩ := hp
      rw [hS1] at hC
      exact kr_iret hx hb hr hlk hC (Or.inr (Or.inl ⟨rfl, hv1, rfl⟩)) dX0_count_41
    · refine lv_tableIn (off := 41) (tgt := 42) hx hb dX0_count_1 (by decide +kernel) (by decide +kernel) (by decide +kernel) rfl ?_
      refine lv_aload_n hx hb dX0_count_42 rfl (lv_at hl 0 rfl) ?_
      refine kr_ci (As := []) (rest := []) ⟨hx, hb, hml, hown, hts⟩ (k0_framesThere l G S hV) (cwV 0 hts gX0_110 rfl rfl rfl hX0_framesThere ⟨Nat.le_of_ble_eq_true rfl, Nat.le_of_ble_eq_true rfl⟩) hK hC rfl hl.1 rfl (Nat.le_of_ble_eq_true rfl) dX0_count_43 ⟨Nat.zero_le _, Nat.zero_le _⟩ (fun v S1 H locs hp hC => ?_)
      obtain ⟨hv1, hS1⟩ := hp
      rw [hS1] at hC
      exact kr_iret hx hb hr hlk hC (Or.inr (Or.inr (Or.inl ⟨rfl, hv1, rfl⟩))) dX0_count_46
    · refine lv_tableIn (off := 46) (tgt := 47) hx hb dX0_count_1 (by decide +kernel) (by decide +kernel) (by decide +kernel) rfl ?_
      refine lv_aload_n hx hb dX0_count_47 rfl (lv_at hl 0 rfl) ?_
      refine lv_bipush (v := (-2)) hx hb dX0_count_48 (by decide +kernel) ?_
      refine kr_ci (As := [.int (-2)]) (rest := []) ⟨hx, hb, hml, hown, hts⟩ (k0_framesOwnedBy l G S (-2) hP hV) (cwV 1 hts gX0_95 rfl rfl rfl hX0_framesOwnedBy ⟨Nat.le_of_ble_eq_true rfl, Nat.le_of_ble_eq_true rfl⟩) hK hC rfl hl.1 rfl (Nat.le_of_ble_eq_true rfl) dX0_count_50 ⟨Nat.zero_le _, Nat.zero_le _⟩ (fun v S1 H locs hp hC => ?_)
      obtain ⟨o, hS1, hv1, ho⟩ := hp
      rw [hS1] at hC
      exact kr_iret hx hb hr hlk hC (Or.inr (Or.inr (Or.inr (Or.inl ⟨rfl, o, rfl, hv1, ho⟩)))) dX0_count_53
  · refine lv_tableOut (tgt := 54) hx hb dX0_count_1 (by omega) rfl ?_
    refine lv_iconst (v := (-1)) hx hb dX0_count_54 (by decide +kernel) ?_
    exact kr_iret hx hb hr hlk hC (Or.inr (Or.inr (Or.inr (Or.inr ⟨ho, rfl, rfl⟩)))) dX0_count_55
