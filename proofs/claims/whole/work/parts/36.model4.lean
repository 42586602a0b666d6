/-! the reference's public methods, second half (laid by program) -/
set_option maxHeartbeats 4000000 in
set_option maxRecDepth 100000 in
/-- change(g - 1, h - 1) -/
theorem k1_change (l : Launch) (G : mg_T) (S : ms_T) (g h : Nat) (hg1 : 1 ≤ g) (hg2 : g ≤ 200) (hh : h ≤ 200) (hO : mv_ok S) : Met l yX1_change wX1_change ({ frames := 1, cells := 0, slots := 0, locals := 32 }) (va_Pc [.ref (mg_h G), .int (ks_e g), .int (ks_e h)] (mc_p G S)) (va_Qv (fun S' : ms_T => S' = ms_mh S g h) (mc_q G) (mg_A G)) 0 0 (mg_A G) := by
  refine Met.ofW (cc := cX1_change) (maxL := 5) (ret := none) (by decide) rfl ?_
  intro p e s m args below meth c s₁ B hml hv
  obtain ⟨rfl, hv⟩ := hv
  have hx := B.exec
  have hb := B.bytes
  have hr := B.returns
  have hlk := B.notSynchronized
  have hts := atoms_spec (ws := wX1_change) B.pre
  have hT : ∀ w ∈ nw_T, w.before _ s = true := fun w h => hts w (List.mem_cons_of_mem _ h)
  have hown : s.vm.findClass RX1 = some m.cls := findClass_of_methodNamed B.named
  have hK : mc_K G s := hv.2.2
  have hC := mc_start hv
  have hl := lv_entry ([.ref (mg_h G), .int (ks_e g), .int (ks_e h)]) (n := 5) (Nat.le_of_ble_eq_true rfl)
  rw [lg_entry_eq]
  generalize (lg_sl ([.ref (mg_h G), .int (ks_e g), .int (ks_e h)]) ++ List.replicate (5 - (lg_sl ([.ref (mg_h G), .int (ks_e g), .int (ks_e h)])).length) Slot.unset).toArray = ls at hl ⊢
  have hl : lv_has ls 5 [(0, .ref (mg_h G)), (1, .int (ks_e g)), (2, .int (ks_e h))] := hl
  refine lv_iconst (v := (nI 0)) hx hb dX1_change_0 (by decide +kernel) ?_
  refine lv_istore_n (lv' := [(3, .int (nI 0)), (0, .ref (mg_h G)), (1, .int (ks_e g)), (2, .int (ks_e h))]) hx hb dX1_change_1 rfl hl (by decide) rfl (fun ls hl => ?_)
  have hC : mc_at G (mg_A G) s.heap (ms_uF S (mh_f S g h (32 * 0))) s.heap [] := by rw [mh_0]; exact hC
  have loop : ∀ (n : Nat) (r : Nat) (ls : Array Slot) (H : Heap) (locs : List Loc), r + n = 40 → r ≤ 40 → lv_has ls 5 [(3, .int (nI r)), (0, .ref (mg_h G)), (1, .int (ks_e g)), (2, .int (ks_e h))] → mc_at G (mg_A G) s.heap (ms_uF S (mh_f S g h (32 * r))) H locs → W p l e (headSpec wX1_change ({ frames := 1, cells := 0, slots := 0, locals := 32 })).room s m [.ref (mg_h G), .int (ks_e g), .int (ks_e h)].toArray below meth c H locs 0 0 (MQ below (va_Qv (fun S' : ms_T => S' = ms_mh S g h) (mc_q G) (mg_A G)) [.ref (mg_h G), .int (ks_e g), .int (ks_e h)].toArray s 0 0 (mg_A G)) (F0 m 2 ls []) := by
    intro n
    induction n with
    | zero =>
      intro r ls H locs hm hr4 hl hC
      refine lv_iload_n hx hb dX1_change_2 rfl (lv_at hl 0 rfl) ?_
      refine lv_bipush (v := (nI 40)) hx hb dX1_change_3 (by decide +kernel) ?_
      refine wn_ge (tgt := 67) hx hb (by omega) (by omega) dX1_change_5 rfl (fun _ => ?_) (fun h9 => absurd h9 (by omega))
      obtain rfl : r = 40 := by omega
      exact mr_vret hx hb hr hlk hC (rfl) dX1_change_67
    | succ n ih =>
      intro r ls H locs hm hr4 hl hC
      refine lv_iload_n hx hb dX1_change_2 rfl (lv_at hl 0 rfl) ?_
      refine lv_bipush (v := (nI 40)) hx hb dX1_change_3 (by decide +kernel) ?_
      refine wn_ge (tgt := 67) hx hb (by omega) (by omega) dX1_change_5 rfl (fun h9 => absurd h9 (by omega)) (fun _ => ?_)
      have hB1 := hO.1 r (by omega)
      have hP1 := hO.2.1 r (by omega)
      have eB : ∀ F, ms_B (ms_uF S F) r = ms_B S r := fun F => rfl
      have eP : ∀ F, ms_P (ms_uF S F) r = ms_P S r := fun F => rfl
      refine lv_iconst (v := (nI 0)) hx hb dX1_change_8 (by decide +kernel) ?_
      refine lv_istore (lv' := [(4, .int (nI 0)), (3, .int (nI r)), (0, .ref (mg_h G)), (1, .int (ks_e g)), (2, .int (ks_e h))]) hx hb dX1_change_9 hl (by decide) rfl (fun ls hl => ?_)
      by_cases hb0 : ms_B S r = 0
      · skip
        refine lv_aload_n hx hb dX1_change_11 rfl (lv_at hl 2 rfl) ?_
        refine mr_get hx hb hT mx_in hown hK hC 1 (by decide) (hT _ mw_371) rfl rfl dX1_change_12 ?_
        refine lv_iload_n hx hb dX1_change_15 rfl (lv_at hl 1 rfl) ?_
        refine mr_ldB hx hb hK hC (by omega) dX1_change_16 ?_
        rw [eB]
        refine wn_if0 (tgt := 61) hx hb (by omega) dX1_change_17 rfl (fun _ => ?_) (fun h9 => absurd hb0 h9)
        refine lv_iinc (lv' := [(3, .int (nI (r + 1))), (4, .int (nI 0)), (0, .ref (mg_h G)), (1, .int (ks_e g)), (2, .int (ks_e h))]) (v := (nI (r + 1))) (k := 1) hx hb dX1_change_61 hl rfl (nI_1 _) (by decide) rfl (fun ls hl => ?_)
        refine lv_goto (tgt := 2) hx hb dX1_change_64 rfl ?_
        have hl := lv_sub (l' := [(3, .int (nI (r + 1))), (0, .ref (mg_h G)), (1, .int (ks_e g)), (2, .int (ks_e h))]) hl [0, 2, 3, 4] rfl
        have hC : mc_at G (mg_A G) s.heap (ms_uF S (mh_f S g h (32 * (r + 1)))) H locs := by
          rw [← mh_row (a := 32 * r) (by omega) (fun x h1 h2 hq => hq.1 (by rw [show x / 32 = r by omega]; exact hb0))]
          exact hC
        exact ih (r + 1) ls H locs (by omega) (by omega) hl hC
      · skip
        have loop2 : ∀ (n2 : Nat) (i : Nat) (ls : Array Slot) (H : Heap) (locs : List Loc), i + n2 = ms_P S r → i ≤ ms_P S r → lv_has ls 5 [(4, .int (nI i)), (3, .int (nI r)), (0, .ref (mg_h G)), (1, .int (ks_e g)), (2, .int (ks_e h))] → mc_at G (mg_A G) s.heap (ms_uF S (mh_f S g h (32 * r + i))) H locs → W p l e (headSpec wX1_change ({ frames := 1, cells := 0, slots := 0, locals := 32 })).room s m [.ref (mg_h G), .int (ks_e g), .int (ks_e h)].toArray below meth c H locs 0 0 (MQ below (va_Qv (fun S' : ms_T => S' = ms_mh S g h) (mc_q G) (mg_A G)) [.ref (mg_h G), .int (ks_e g), .int (ks_e h)].toArray s 0 0 (mg_A G)) (F0 m 11 ls []) := by
          intro n2
          induction n2 with
          | zero =>
            intro i ls H locs hm2 hi hl hC
            refine lv_aload_n hx hb dX1_change_11 rfl (lv_at hl 2 rfl) ?_
            refine mr_get hx hb hT mx_in hown hK hC 1 (by decide) (hT _ mw_371) rfl rfl dX1_change_12 ?_
            refine lv_iload_n hx hb dX1_change_15 rfl (lv_at hl 1 rfl) ?_
            refine mr_ldB hx hb hK hC (by omega) dX1_change_16 ?_
            rw [eB]
            refine wn_if0 (tgt := 61) hx hb (by omega) dX1_change_17 rfl (fun h9 => absurd h9 hb0) (fun _ => ?_)
            refine lv_iload hx hb dX1_change_20 (lv_at hl 0 rfl) ?_
            refine lv_aload_n hx hb dX1_change_22 rfl (lv_at hl 2 rfl) ?_
            refine mr_get hx hb hT mx_in hown hK hC 2 (by decide) (hT _ mw_372) rfl rfl dX1_change_23 ?_
            refine lv_iload_n hx hb dX1_change_26 rfl (lv_at hl 1 rfl) ?_
            refine mr_ldP hx hb hK hC (by omega) dX1_change_27 ?_
            rw [eP]
            refine wn_ge (tgt := 61) hx hb (by omega) (by omega) dX1_change_28 rfl (fun _ => ?_) (fun h9 => absurd h9 (by omega))
            refine lv_iinc (lv' := [(3, .int (nI (r + 1))), (4, .int (nI i)), (0, .ref (mg_h G)), (1, .int (ks_e g)), (2, .int (ks_e h))]) (v := (nI (r + 1))) (k := 1) hx hb dX1_change_61 hl rfl (nI_1 _) (by decide) rfl (fun ls hl => ?_)
            refine lv_goto (tgt := 2) hx hb dX1_change_64 rfl ?_
            have hl := lv_sub (l' := [(3, .int (nI (r + 1))), (0, .ref (mg_h G)), (1, .int (ks_e g)), (2, .int (ks_e h))]) hl [0, 2, 3, 4] rfl
            have hC : mc_at G (mg_A G) s.heap (ms_uF S (mh_f S g h (32 * (r + 1)))) H locs := by
              rw [← mh_row (a := 32 * r + i) (by omega) (fun x h1 h2 hq => by
                have e := hq.2.1
                rw [show x / 32 = r by omega] at e
                omega)]
              exact hC
            exact ih (r + 1) ls H locs (by omega) (by omega) hl hC
          | succ n2 ih2 =>
            intro i ls H locs hm2 hi hl hC
            refine lv_aload_n hx hb dX1_change_11 rfl (lv_at hl 2 rfl) ?_
            refine mr_get hx hb hT mx_in hown hK hC 1 (by decide) (hT _ mw_371) rfl rfl dX1_change_12 ?_
            refine lv_iload_n hx hb dX1_change_15 rfl (lv_at hl 1 rfl) ?_
            refine mr_ldB hx hb hK hC (by omega) dX1_change_16 ?_
            rw [eB]
            refine wn_if0 (tgt := 61) hx hb (by omega) dX1_change_17 rfl (fun h9 => absurd h9 hb0) (fun _ => ?_)
            refine lv_iload hx hb dX1_change_20 (lv_at hl 0 rfl) ?_
            refine lv_aload_n hx hb dX1_change_22 rfl (lv_at hl 2 rfl) ?_
            refine mr_get hx hb hT mx_in hown hK hC 2 (by decide) (hT _ mw_372) rfl rfl dX1_change_23 ?_
            refine lv_iload_n hx hb dX1_change_26 rfl (lv_at hl 1 rfl) ?_
            refine mr_ldP hx hb hK hC (by omega) dX1_change_27 ?_
            rw [eP]
            refine wn_ge (tgt := 61) hx hb (by omega) (by omega) dX1_change_28 rfl (fun h9 => absurd h9 (by omega)) (fun _ => ?_)
            refine lv_aload_n hx hb dX1_change_31 rfl (lv_at hl 2 rfl) ?_
            refine lv_iload_n hx hb dX1_change_32 rfl (lv_at hl 1 rfl) ?_
            refine lv_iload hx hb dX1_change_33 (lv_at hl 0 rfl) ?_
            have e9 : ms_F (ms_uF S (mh_f S g h (32 * r + i))) (32 * r + i) = ms_F S (32 * r + i) := mh_at _ _ _ _
            have hF := hO.2.2 (32 * r + i) (by omega)
            have hd := mh_dm (r := r) (i := i) (by omega)
            refine mr_ci (As := [.int (nI r), .int (nI i)]) (rest := []) ⟨hx, hb, hml, hown, hts⟩ (k1_at l G (ms_uF S (mh_f S g h (32 * r + i))) r i (by omega) (by omega)) (cwV 2 hts gX1_34 rfl rfl rfl hX1_at ⟨Nat.le_of_ble_eq_true rfl, Nat.le_of_ble_eq_true rfl⟩) hK hC rfl hl.1 rfl (Nat.le_of_ble_eq_true rfl) dX1_change_35 ⟨Nat.zero_le _, Nat.zero_le _⟩ (fun v S1 H locs hp hC => ?_)
            obtain ⟨rfl, hS1⟩ := hp
            rw [hS1] at hC
            rw [e9]
            refine lv_iload_n hx hb dX1_change_38 rfl (lv_at hl 3 rfl) ?_
            refine lv_icmp_ne (tgt := 55) hx hb dX1_change_39 rfl (fun h3 => ?_) (fun h3 => ?_)
            · have hC : mc_at G (mg_A G) s.heap (ms_uF S (mh_f S g h (32 * r + (i + 1)))) H locs := by
                rw [← mh_row (a := 32 * r + i) (by omega) (fun x h1 h2 hq => h3 (by rw [← hq.2.2, show x = 32 * r + i by omega]))]
                exact hC
              refine lv_iinc (lv' := [(4, .int (nI (i + 1))), (3, .int (nI r)), (0, .ref (mg_h G)), (1, .int (ks_e g)), (2, .int (ks_e h))]) (v := (nI (i + 1))) (k := 0) hx hb dX1_change_55 hl rfl (nI_1 _) (by decide) rfl (fun ls hl => ?_)
              refine lv_goto (tgt := 11) hx hb dX1_change_58 rfl ?_
              exact ih2 (i + 1) ls H locs (by omega) (by omega) hl hC
            · have h4 := (ks_e_eq (by omega) (by omega)).mp h3
              refine lv_aload_n hx hb dX1_change_42 rfl (lv_at hl 2 rfl) ?_
              refine mr_get hx hb hT mx_in hown hK hC 3 (by decide) (hT _ mw_373) rfl rfl dX1_change_43 ?_
              refine lv_bipush (v := (nI 32)) hx hb dX1_change_46 (by decide +kernel) ?_
              refine lv_iload_n hx hb dX1_change_48 rfl (lv_at hl 1 rfl) ?_
              refine wn_mul hx hb dX1_change_49 ?_
              refine lv_iload hx hb dX1_change_50 (lv_at hl 0 rfl) ?_
              refine wn_add hx hb dX1_change_52 ?_
              refine lv_iload_n hx hb dX1_change_53 rfl (lv_at hl 4 rfl) ?_
              refine mr_stF (y := h) hx hb hK hC (by omega) rfl dX1_change_54 (fun H locs hC => ?_)
              have hC : mc_at G (mg_A G) s.heap (ms_uF S (mh_f S g h (32 * r + (i + 1)))) H locs := by
                rw [← Nat.add_assoc, ← mh_st ⟨by rw [hd.1]; exact hb0, by rw [hd.1, hd.2]; omega, h4⟩]
                exact hC
              refine lv_iinc (lv' := [(4, .int (nI (i + 1))), (3, .int (nI r)), (0, .ref (mg_h G)), (1, .int (ks_e g)), (2, .int (ks_e h))]) (v := (nI (i + 1))) (k := 0) hx hb dX1_change_55 hl rfl (nI_1 _) (by decide) rfl (fun ls hl => ?_)
              refine lv_goto (tgt := 11) hx hb dX1_change_58 rfl ?_
              exact ih2 (i + 1) ls H locs (by omega) (by omega) hl hC
        exact loop2 (ms_P S r) 0 ls H locs (by omega) (by omega) hl hC
  exact loop 40 0 ls s.heap [] rfl (by omega) hl hC
set_option maxHeartbeats 4000000 in
set_option maxRecDepth 100000 in
/-- sweep() -/
theorem k1_sweep (l : Launch) (G : mg_T) (S : ms_T) (hO : mv_ok S) : Met l yX1_sweep wX1_sweep ({ frames := 2, cells := 0, slots := 0, locals := 64 }) (va_Pc [.ref (mg_h G)] (mc_p G S)) (va_Qi (fun (v : Int32) (S' : ms_T) => v = nI (sw_m (ms_st S 0) 200).2 ∧ S' = (sw_m (ms_st S 0) 200).1) (mc_q G) (mg_A G)) 0 0 (mg_A G) := by
  refine Met.ofW (cc := cX1_sweep) (maxL := 5) (ret := (some .int)) (by decide) rfl ?_
  intro p e s m args below meth c s₁ B hml hv
  obtain ⟨rfl, hv⟩ := hv
  have hx := B.exec
  have hb := B.bytes
  have hr := B.returns
  have hlk := B.notSynchronized
  have hts := atoms_spec (ws := wX1_sweep) B.pre
  have hT : ∀ w ∈ nw_T, w.before _ s = true := fun w h => hts w (List.mem_cons_of_mem _ h)
  have hown : s.vm.findClass RX1 = some m.cls := findClass_of_methodNamed B.named
  have hK : mc_K G s := hv.2.2
  have hC := mc_start hv
  have hl := lv_entry ([.ref (mg_h G)]) (n := 5) (Nat.le_of_ble_eq_true rfl)
  rw [lg_entry_eq]
  generalize (lg_sl ([.ref (mg_h G)]) ++ List.replicate (5 - (lg_sl ([.ref (mg_h G)])).length) Slot.unset).toArray = ls at hl ⊢
  have hl : lv_has ls 5 [(0, .ref (mg_h G))] := hl
  refine lv_aload_n hx hb dX1_sweep_0 rfl (lv_at hl 0 rfl) ?_
  refine lv_iconst (v := (nI 0)) hx hb dX1_sweep_1 (by decide +kernel) ?_
  refine mr_put (x := 0) hx hb hT mx_in hown hK hC (hT _ mw_370) dX1_sweep_2 (fun H locs hC => ?_)
  refine lv_iconst (v := (nI 0)) hx hb dX1_sweep_5 (by decide +kernel) ?_
  refine lv_istore_n (lv' := [(1, .int (nI 0)), (0, .ref (mg_h G))]) hx hb dX1_sweep_6 rfl hl (by decide) rfl (fun ls hl => ?_)
  refine lv_iconst (v := (nI 0)) hx hb dX1_sweep_7 (by decide +kernel) ?_
  refine lv_istore_n (lv' := [(2, .int (nI 0)), (1, .int (nI 0)), (0, .ref (mg_h G))]) hx hb dX1_sweep_8 rfl hl (by decide) rfl (fun ls hl => ?_)
  have hOk : ∀ n, mv_ok (sw_m (ms_st S 0) n).1 := sw_ok hO
  have loop : ∀ (n : Nat) (f : Nat) (ls : Array Slot) (H : Heap) (locs : List Loc), f + n = 200 → f ≤ 200 → lv_has ls 5 [(2, .int (nI f)), (1, .int (nI ((sw_m (ms_st S 0) f).2))), (0, .ref (mg_h G))] → mc_at G (mg_A G) s.heap (sw_m (ms_st S 0) f).1 H locs → W p l e (headSpec wX1_sweep ({ frames := 2, cells := 0, slots := 0, locals := 64 })).room s m [.ref (mg_h G)].toArray below meth c H locs 0 0 (MQ below (va_Qi (fun (v : Int32) (S' : ms_T) => v = nI (sw_m (ms_st S 0) 200).2 ∧ S' = (sw_m (ms_st S 0) 200).1) (mc_q G) (mg_A G)) [.ref (mg_h G)].toArray s 0 0 (mg_A G)) (F0 m 9 ls []) := by
    intro n
    induction n with
    | zero =>
      intro f ls H locs hm hf hl hC
      refine lv_iload_n hx hb dX1_sweep_9 rfl (lv_at hl 0 rfl) ?_
      refine lv_sipush (v := (nI 200)) hx hb dX1_sweep_10 (by decide +kernel) ?_
      refine wn_ge (tgt := 90) hx hb (by omega) (by omega) dX1_sweep_13 rfl (fun _ => ?_) (fun h9 => absurd h9 (by omega))
      obtain rfl : f = 200 := by omega
      refine lv_iload_n hx hb dX1_sweep_90 rfl (lv_at hl 1 rfl) ?_
      exact mr_iret hx hb hr hlk hC (⟨rfl, rfl⟩) dX1_sweep_91
    | succ n ih =>
      intro f ls H locs hm hf hl hC
      refine lv_iload_n hx hb dX1_sweep_9 rfl (lv_at hl 0 rfl) ?_
      refine lv_sipush (v := (nI 200)) hx hb dX1_sweep_10 (by decide +kernel) ?_
      refine wn_ge (tgt := 90) hx hb (by omega) (by omega) dX1_sweep_13 rfl (fun h9 => absurd h9 (by omega)) (fun _ => ?_)
      obtain ⟨T, hT9⟩ : ∃ z, z = (sw_m (ms_st S 0) f) := ⟨_, rfl⟩
      have hOT : mv_ok T.1 := by rw [hT9]; exact hOk f
      rw [← hT9] at hl hC
      have ih := fun ls H locs => ih (f + 1) ls H locs
      have eX : (sw_m (ms_st S 0) (f + 1)) = sw_c T f := by rw [hT9]; rfl
      rw [eX] at ih
      refine lv_aload_n hx hb dX1_sweep_16 rfl (lv_at hl 2 rfl) ?_
      refine lv_iload_n hx hb dX1_sweep_17 rfl (lv_at hl 0 rfl) ?_
      rw [← ks_e1 f]
      refine mr_ci (As := [.int (ks_e (f + 1))]) (rest := []) ⟨hx, hb, hml, hown, hts⟩ (k1_holdersOf l G T.1 (f + 1) (by omega) (by omega) hOT) (cwV 1 hts gX1_38 rfl rfl rfl hX1_holdersOf ⟨Nat.le_of_ble_eq_true rfl, Nat.le_of_ble_eq_true rfl⟩) hK hC rfl hl.1 rfl (Nat.le_of_ble_eq_true rfl) dX1_sweep_18 ⟨Nat.zero_le _, Nat.zero_le _⟩ (fun v S1 H locs hp hC => ?_)
      obtain ⟨rfl, hS1⟩ := hp
      rw [hS1] at hC
      have hb9 := cn_f_b (F := mv_F T.1) (f := f + 1)
      refine wn_if1 (tgt := 27) hx hb (by omega) dX1_sweep_21 rfl (fun h3 => ?_) (fun h3 => ?_)
      · refine lv_iconst (v := (nI 1)) hx hb dX1_sweep_27 (by decide +kernel) ?_
        refine lv_istore_n (lv' := [(3, .int (nI 1)), (2, .int (nI f)), (1, .int (nI T.2)), (0, .ref (mg_h G))]) hx hb dX1_sweep_28 rfl hl (by decide) rfl (fun ls hl => ?_)
        refine lv_iconst (v := (nI 0)) hx hb dX1_sweep_29 (by decide +kernel) ?_
        refine lv_istore (lv' := [(4, .int (nI 0)), (3, .int (nI 1)), (2, .int (nI f)), (1, .int (nI T.2)), (0, .ref (mg_h G))]) hx hb dX1_sweep_30 hl (by decide) rfl (fun ls hl => ?_)
        have loop2 : ∀ (n2 : Nat) (i : Nat) (b : Int32) (ls : Array Slot) (H : Heap) (locs : List Loc), i + n2 = 8 → ((b = nI 1 ∧ ∀ j, j < i → ms_C T.1 (8 * f + j) = 0) ∨ (b = nI 0 ∧ ms_z T.1 f = false)) → lv_has ls 5 [(4, .int (nI i)), (3, .int b), (2, .int (nI f)), (1, .int (nI T.2)), (0, .ref (mg_h G))] → mc_at G (mg_A G) s.heap T.1 H locs → W p l e (headSpec wX1_sweep ({ frames := 2, cells := 0, slots := 0, locals := 64 })).room s m [.ref (mg_h G)].toArray below meth c H locs 0 0 (MQ below (va_Qi (fun (v : Int32) (S' : ms_T) => v = nI (sw_m (ms_st S 0) 200).2 ∧ S' = (sw_m (ms_st S 0) 200).1) (mc_q G) (mg_A G)) [.ref (mg_h G)].toArray s 0 0 (mg_A G)) (F0 m 32 ls []) := by
          intro n2
          induction n2 with
          | zero =>
            intro i b ls H locs hm2 hd hl hC
            refine lv_iload hx hb dX1_sweep_32 (lv_at hl 0 rfl) ?_
            refine lv_bipush (v := (nI 8)) hx hb dX1_sweep_34 (by decide +kernel) ?_
            refine wn_ge (tgt := 68) hx hb (by omega) (by omega) dX1_sweep_36 rfl (fun _ => ?_) (fun h9 => absurd h9 (by omega))
            refine lv_iload_n hx hb dX1_sweep_68 rfl (lv_at hl 1 rfl) ?_
            obtain ⟨rfl, hz⟩ | ⟨rfl, hz⟩ := hd
            · skip
              refine wn_if1 (tgt := 75) hx hb (by omega) dX1_sweep_69 rfl (fun _ => ?_) (fun h9 => absurd h9 (by omega))
              have hz1 := ms_z_iff.mpr (fun j hj => hz j (by omega))
              refine lv_aload_n hx hb dX1_sweep_75 rfl (lv_at hl 4 rfl) ?_
              refine lv_iload_n hx hb dX1_sweep_76 rfl (lv_at hl 2 rfl) ?_
              refine lv_iconst (v := (-1)) hx hb dX1_sweep_77 (by decide +kernel) ?_
              rw [← ks_e1 f]
              have e0 : (-1 : Int32) = ks_e 0 := rfl
              rw [e0]
              refine mr_cv (As := [.int (ks_e (f + 1)), .int (ks_e 0)]) (rest := []) ⟨hx, hb, hml, hown, hts⟩ (k1_change l G T.1 (f + 1) 0 (by omega) (by omega) (by omega) hOT) (cwV 2 hts gX1_70 rfl rfl rfl hX1_change ⟨Nat.le_of_ble_eq_true rfl, Nat.le_of_ble_eq_true rfl⟩) hK hC rfl hl.1 rfl (Nat.le_of_ble_eq_true rfl) dX1_sweep_78 ⟨Nat.zero_le _, Nat.zero_le _⟩ (fun S1 H locs hp hC => ?_)
              rw [hp] at hC
              rw [sw_t h3 hz1] at ih
              refine lv_iinc (lv' := [(1, .int (nI (T.2 + 1))), (4, .int (nI i)), (3, .int (nI 1)), (2, .int (nI f)), (0, .ref (mg_h G))]) (v := (nI (T.2 + 1))) (k := 3) hx hb dX1_sweep_81 hl rfl (nI_1 _) (by decide) rfl (fun ls hl => ?_)
              refine lv_iinc (lv' := [(2, .int (nI (f + 1))), (1, .int (nI (T.2 + 1))), (4, .int (nI i)), (3, .int (nI 1)), (0, .ref (mg_h G))]) (v := (nI (f + 1))) (k := 3) hx hb dX1_sweep_84 hl rfl (nI_1 _) (by decide) rfl (fun ls hl => ?_)
              refine lv_goto (tgt := 9) hx hb dX1_sweep_87 rfl ?_
              have hl := lv_sub (l' := [(2, .int (nI (f + 1))), (1, .int (nI (T.2 + 1))), (0, .ref (mg_h G))]) hl [0, 1, 4] rfl
              exact ih ls H locs (by omega) (by omega) hl hC
            · skip
              refine wn_if1 (tgt := 75) hx hb (by omega) dX1_sweep_69 rfl (fun h9 => absurd h9 (by omega)) (fun _ => ?_)
              refine lv_goto (tgt := 84) hx hb dX1_sweep_72 rfl ?_
              rw [sw_n2 hz] at ih
              refine lv_iinc (lv' := [(2, .int (nI (f + 1))), (4, .int (nI i)), (3, .int (nI 0)), (1, .int (nI T.2)), (0, .ref (mg_h G))]) (v := (nI (f + 1))) (k := 2) hx hb dX1_sweep_84 hl rfl (nI_1 _) (by decide) rfl (fun ls hl => ?_)
              refine lv_goto (tgt := 9) hx hb dX1_sweep_87 rfl ?_
              have hl := lv_sub (l' := [(2, .int (nI (f + 1))), (1, .int (nI T.2)), (0, .ref (mg_h G))]) hl [0, 3, 4] rfl
              exact ih ls H locs (by omega) (by omega) hl hC
          | succ n2 ih2 =>
            intro i b ls H locs hm2 hd hl hC
            refine lv_iload hx hb dX1_sweep_32 (lv_at hl 0 rfl) ?_
            refine lv_bipush (v := (nI 8)) hx hb dX1_sweep_34 (by decide +kernel) ?_
            refine wn_ge (tgt := 68) hx hb (by omega) (by omega) dX1_sweep_36 rfl (fun h9 => absurd h9 (by omega)) (fun _ => ?_)
            have hb2 : b = nI 1 ∨ b = nI 0 := hd.imp (fun h => h.1) (fun h => h.1)
            refine lv_iload_n hx hb dX1_sweep_39 rfl (lv_at hl 1 rfl) ?_
            refine lv_aload_n hx hb dX1_sweep_40 rfl (lv_at hl 4 rfl) ?_
            refine mr_get hx hb hT mx_in hown hK hC 4 (by decide) (hT _ mw_374) rfl rfl dX1_sweep_41 ?_
            refine lv_bipush (v := (nI 8)) hx hb dX1_sweep_44 (by decide +kernel) ?_
            refine lv_iload_n hx hb dX1_sweep_46 rfl (lv_at hl 2 rfl) ?_
            refine wn_mul hx hb dX1_sweep_47 ?_
            refine lv_iload hx hb dX1_sweep_48 (lv_at hl 0 rfl) ?_
            refine wn_add hx hb dX1_sweep_50 ?_
            refine mr_ldC hx hb hK hC (by omega) dX1_sweep_51 ?_
            refine lv_if_ne (tgt := 59) hx hb dX1_sweep_52 rfl (fun h4 => ?_) (fun h4 => ?_)
            · refine lv_iconst (v := (nI 0)) hx hb dX1_sweep_59 (by decide +kernel) ?_
              refine lv_iand hx hb dX1_sweep_60 ?_
              rw [an_0 b hb2]
              refine lv_istore_n (lv' := [(3, .int (nI 0)), (4, .int (nI i)), (2, .int (nI f)), (1, .int (nI T.2)), (0, .ref (mg_h G))]) hx hb dX1_sweep_61 rfl hl (by decide) rfl (fun ls hl => ?_)
              refine lv_iinc (lv' := [(4, .int (nI (i + 1))), (3, .int (nI 0)), (2, .int (nI f)), (1, .int (nI T.2)), (0, .ref (mg_h G))]) (v := (nI (i + 1))) (k := 1) hx hb dX1_sweep_62 hl rfl (nI_1 _) (by decide) rfl (fun ls hl => ?_)
              refine lv_goto (tgt := 32) hx hb dX1_sweep_65 rfl ?_
              exact ih2 (i + 1) (nI 0) ls H locs (by omega) (Or.inr ⟨rfl, by
                cases hz : ms_z T.1 f
                · rfl
                · exact absurd (ms_z_iff.mp hz i (by omega)) h4⟩) hl hC
            · refine lv_iconst (v := (nI 1)) hx hb dX1_sweep_55 (by decide +kernel) ?_
              refine lv_goto (tgt := 60) hx hb dX1_sweep_56 rfl ?_
              refine lv_iand hx hb dX1_sweep_60 ?_
              rw [an_1 b hb2]
              refine lv_istore_n (lv' := [(3, .int b), (4, .int (nI i)), (2, .int (nI f)), (1, .int (nI T.2)), (0, .ref (mg_h G))]) hx hb dX1_sweep_61 rfl hl (by decide) rfl (fun ls hl => ?_)
              refine lv_iinc (lv' := [(4, .int (nI (i + 1))), (3, .int b), (2, .int (nI f)), (1, .int (nI T.2)), (0, .ref (mg_h G))]) (v := (nI (i + 1))) (k := 1) hx hb dX1_sweep_62 hl rfl (nI_1 _) (by decide) rfl (fun ls hl => ?_)
              refine lv_goto (tgt := 32) hx hb dX1_sweep_65 rfl ?_
              exact ih2 (i + 1) b ls H locs (by omega) (hd.imp (fun h => ⟨h.1, lt_s h.2 h4⟩) (fun h => h)) hl hC
        exact loop2 8 0 (nI 1) ls H locs rfl (Or.inl ⟨rfl, lt_0⟩) hl hC
      · refine lv_goto (tgt := 84) hx hb dX1_sweep_24 rfl ?_
        rw [sw_n1 h3] at ih
        refine lv_iinc (lv' := [(2, .int (nI (f + 1))), (1, .int (nI T.2)), (0, .ref (mg_h G))]) (v := (nI (f + 1))) (k := 0) hx hb dX1_sweep_84 hl rfl (nI_1 _) (by decide) rfl (fun ls hl => ?_)
        refine lv_goto (tgt := 9) hx hb dX1_sweep_87 rfl ?_
        exact ih ls H locs (by omega) (by omega) hl hC
  exact loop 200 0 ls H locs rfl (by omega) hl hC
set_option maxHeartbeats 4000000 in
set_option maxRecDepth 100000 in
/-- merge() -/
theorem k1_merge (l : Launch) (G : mg_T) (S : ms_T) (hO : mv_ok S) : Met l yX1_merge wX1_merge ({ frames := 2, cells := 0, slots := 0, locals := 64 }) (va_Pc [.ref (mg_h G)] (mc_p G S)) (va_Qi (fun (v : Int32) (S' : ms_T) => v = nI (mg_m (ms_st S 0) 200).2 ∧ S' = (mg_m (ms_st S 0) 200).1) (mc_q G) (mg_A G)) 0 0 (mg_A G) := by
  refine Met.ofW (cc := cX1_merge) (maxL := 4) (ret := (some .int)) (by decide) rfl ?_
  intro p e s m args below meth c s₁ B hml hv
  obtain ⟨rfl, hv⟩ := hv
  have hx := B.exec
  have hb := B.bytes
  have hr := B.returns
  have hlk := B.notSynchronized
  have hts := atoms_spec (ws := wX1_merge) B.pre
  have hT : ∀ w ∈ nw_T, w.before _ s = true := fun w h => hts w (List.mem_cons_of_mem _ h)
  have hown : s.vm.findClass RX1 = some m.cls := findClass_of_methodNamed B.named
  have hK : mc_K G s := hv.2.2
  have hC := mc_start hv
  have hl := lv_entry ([.ref (mg_h G)]) (n := 4) (Nat.le_of_ble_eq_true rfl)
  rw [lg_entry_eq]
  generalize (lg_sl ([.ref (mg_h G)]) ++ List.replicate (4 - (lg_sl ([.ref (mg_h G)])).length) Slot.unset).toArray = ls at hl ⊢
  have hl : lv_has ls 4 [(0, .ref (mg_h G))] := hl
  refine lv_aload_n hx hb dX1_merge_0 rfl (lv_at hl 0 rfl) ?_
  refine lv_iconst (v := (nI 0)) hx hb dX1_merge_1 (by decide +kernel) ?_
  refine mr_put (x := 0) hx hb hT mx_in hown hK hC (hT _ mw_370) dX1_merge_2 (fun H locs hC => ?_)
  refine lv_iconst (v := (nI 0)) hx hb dX1_merge_5 (by decide +kernel) ?_
  refine lv_istore_n (lv' := [(1, .int (nI 0)), (0, .ref (mg_h G))]) hx hb dX1_merge_6 rfl hl (by decide) rfl (fun ls hl => ?_)
  refine lv_iconst (v := (nI 0)) hx hb dX1_merge_7 (by decide +kernel) ?_
  refine lv_istore_n (lv' := [(2, .int (nI 0)), (1, .int (nI 0)), (0, .ref (mg_h G))]) hx hb dX1_merge_8 rfl hl (by decide) rfl (fun ls hl => ?_)
  have hOk : ∀ n, n ≤ 200 → mv_ok (mg_m (ms_st S 0) n).1 := mgm_ok hO
  have loop : ∀ (n : Nat) (f : Nat) (ls : Array Slot) (H : Heap) (locs : List Loc), f + n = 200 → f ≤ 200 → lv_has ls 4 [(2, .int (nI f)), (1, .int (nI ((mg_m (ms_st S 0) f).2))), (0, .ref (mg_h G))] → mc_at G (mg_A G) s.heap (mg_m (ms_st S 0) f).1 H locs → W p l e (headSpec wX1_merge ({ frames := 2, cells := 0, slots := 0, locals := 64 })).room s m [.ref (mg_h G)].toArray below meth c H locs 0 0 (MQ below (va_Qi (fun (v : Int32) (S' : ms_T) => v = nI (mg_m (ms_st S 0) 200).2 ∧ S' = (mg_m (ms_st S 0) 200).1) (mc_q G) (mg_A G)) [.ref (mg_h G)].toArray s 0 0 (mg_A G)) (F0 m 9 ls []) := by
    intro n
    induction n with
    | zero =>
      intro f ls H locs hm hf hl hC
      refine lv_iload_n hx hb dX1_merge_9 rfl (lv_at hl 0 rfl) ?_
      refine lv_sipush (v := (nI 200)) hx hb dX1_merge_10 (by decide +kernel) ?_
      refine wn_ge (tgt := 72) hx hb (by omega) (by omega) dX1_merge_13 rfl (fun _ => ?_) (fun h9 => absurd h9 (by omega))
      obtain rfl : f = 200 := by omega
      refine lv_iload_n hx hb dX1_merge_72 rfl (lv_at hl 1 rfl) ?_
      exact mr_iret hx hb hr hlk hC (⟨rfl, rfl⟩) dX1_merge_73
    | succ n ih =>
      intro f ls H locs hm hf hl hC
      refine lv_iload_n hx hb dX1_merge_9 rfl (lv_at hl 0 rfl) ?_
      refine lv_sipush (v := (nI 200)) hx hb dX1_merge_10 (by decide +kernel) ?_
      refine wn_ge (tgt := 72) hx hb (by omega) (by omega) dX1_merge_13 rfl (fun h9 => absurd h9 (by omega)) (fun _ => ?_)
      obtain ⟨T, hT9⟩ : ∃ z, z = (mg_m (ms_st S 0) f) := ⟨_, rfl⟩
      have hOT : ∀ n, n ≤ 200 → mv_ok (mg_i f T n).1 := by rw [hT9]; exact mgi_ok (hOk f hf)
      rw [← hT9] at hl hC
      have ih := fun ls H locs => ih (f + 1) ls H locs
      have eX : (mg_m (ms_st S 0) (f + 1)) = mg_i f T f := by rw [hT9]; rfl
      rw [eX] at ih
      refine lv_iconst (v := (nI 0)) hx hb dX1_merge_16 (by decide +kernel) ?_
      refine lv_istore_n (lv' := [(3, .int (nI 0)), (2, .int (nI f)), (1, .int (nI T.2)), (0, .ref (mg_h G))]) hx hb dX1_merge_17 rfl hl (by decide) rfl (fun ls hl => ?_)
      have loop2 : ∀ (n2 : Nat) (i : Nat) (ls : Array Slot) (H : Heap) (locs : List Loc), i + n2 = f → i ≤ f → lv_has ls 4 [(3, .int (nI i)), (2, .int (nI f)), (1, .int (nI ((mg_i f T i).2))), (0, .ref (mg_h G))] → mc_at G (mg_A G) s.heap (mg_i f T i).1 H locs → W p l e (headSpec wX1_merge ({ frames := 2, cells := 0, slots := 0, locals := 64 })).room s m [.ref (mg_h G)].toArray below meth c H locs 0 0 (MQ below (va_Qi (fun (v : Int32) (S' : ms_T) => v = nI (mg_m (ms_st S 0) 200).2 ∧ S' = (mg_m (ms_st S 0) 200).1) (mc_q G) (mg_A G)) [.ref (mg_h G)].toArray s 0 0 (mg_A G)) (F0 m 18 ls []) := by
        intro n2
        induction n2 with
        | zero =>
          intro i ls H locs hm2 hi hl hC
          refine lv_iload_n hx hb dX1_merge_18 rfl (lv_at hl 0 rfl) ?_
          refine lv_iload_n hx hb dX1_merge_19 rfl (lv_at hl 1 rfl) ?_
          refine wn_ge (tgt := 66) hx hb (by omega) (by omega) dX1_merge_20 rfl (fun _ => ?_) (fun h9 => absurd h9 (by omega))
          obtain rfl : i = f := by omega
          refine lv_iinc (lv' := [(2, .int (nI (i + 1))), (3, .int (nI i)), (1, .int (nI ((mg_i i T i).2))), (0, .ref (mg_h G))]) (v := (nI (i + 1))) (k := 1) hx hb dX1_merge_66 hl rfl (nI_1 _) (by decide) rfl (fun ls hl => ?_)
          refine lv_goto (tgt := 9) hx hb dX1_merge_69 rfl ?_
          have hl := lv_sub (l' := [(2, .int (nI (i + 1))), (1, .int (nI ((mg_i i T i).2))), (0, .ref (mg_h G))]) hl [0, 2, 3] rfl
          exact ih ls H locs (by omega) (by omega) hl hC
        | succ n2 ih2 =>
          intro i ls H locs hm2 hi hl hC
          refine lv_iload_n hx hb dX1_merge_18 rfl (lv_at hl 0 rfl) ?_
          refine lv_iload_n hx hb dX1_merge_19 rfl (lv_at hl 1 rfl) ?_
          refine wn_ge (tgt := 66) hx hb (by omega) (by omega) dX1_merge_20 rfl (fun h9 => absurd h9 (by omega)) (fun _ => ?_)
          have hOi := hOT i (by omega)
          have ih2 := fun ls H locs => ih2 (i + 1) ls H locs
          have eY : (mg_i f T (i + 1)) = mg_c f (mg_i f T i) i := rfl
          rw [eY] at ih2
          have hst := fun h9 => mg_stop (f := f) (T := T) (i := i) h9 (f - i)
          rw [show i + (f - i) = f by omega] at hst
          obtain ⟨Z, hZ⟩ : ∃ z, z = (mg_i f T i) := ⟨_, rfl⟩
          rw [← hZ] at hl hC hOi ih2 hst
          refine lv_aload_n hx hb dX1_merge_23 rfl (lv_at hl 3 rfl) ?_
          refine lv_iload_n hx hb dX1_merge_24 rfl (lv_at hl 1 rfl) ?_
          rw [← ks_e1 f]
          refine mr_ci (As := [.int (ks_e (f + 1))]) (rest := []) ⟨hx, hb, hml, hown, hts⟩ (k1_holdersOf l G Z.1 (f + 1) (by omega) (by omega) hOi) (cwV 1 hts gX1_38 rfl rfl rfl hX1_holdersOf ⟨Nat.le_of_ble_eq_true rfl, Nat.le_of_ble_eq_true rfl⟩) hK hC rfl hl.1 rfl (Nat.le_of_ble_eq_true rfl) dX1_merge_25 ⟨Nat.zero_le _, Nat.zero_le _⟩ (fun v S1 H locs hp hC => ?_)
          obtain ⟨rfl, hS1⟩ := hp
          rw [hS1] at hC
          have hb9 := cn_f_b (F := mv_F Z.1) (f := f + 1)
          refine wn_ifle (tgt := 66) hx hb (by omega) dX1_merge_28 rfl (fun h3 => ?_) (fun h3 => ?_)
          · rw [hst (by omega)] at ih
            refine lv_iinc (lv' := [(2, .int (nI (f + 1))), (3, .int (nI i)), (1, .int (nI Z.2)), (0, .ref (mg_h G))]) (v := (nI (f + 1))) (k := 1) hx hb dX1_merge_66 hl rfl (nI_1 _) (by decide) rfl (fun ls hl => ?_)
            refine lv_goto (tgt := 9) hx hb dX1_merge_69 rfl ?_
            have hl := lv_sub (l' := [(2, .int (nI (f + 1))), (1, .int (nI Z.2)), (0, .ref (mg_h G))]) hl [0, 2, 3] rfl
            exact ih ls H locs (by omega) (by omega) hl hC
          · refine lv_aload_n hx hb dX1_merge_31 rfl (lv_at hl 3 rfl) ?_
            refine lv_iload_n hx hb dX1_merge_32 rfl (lv_at hl 0 rfl) ?_
            rw [← ks_e1 i]
            refine mr_ci (As := [.int (ks_e (i + 1))]) (rest := []) ⟨hx, hb, hml, hown, hts⟩ (k1_holdersOf l G Z.1 (i + 1) (by omega) (by omega) hOi) (cwV 1 hts gX1_38 rfl rfl rfl hX1_holdersOf ⟨Nat.le_of_ble_eq_true rfl, Nat.le_of_ble_eq_true rfl⟩) hK hC rfl hl.1 rfl (Nat.le_of_ble_eq_true rfl) dX1_merge_33 ⟨Nat.zero_le _, Nat.zero_le _⟩ (fun v S1 H locs hp hC => ?_)
            obtain ⟨rfl, hS1⟩ := hp
            rw [hS1] at hC
            have hb9 := cn_f_b (F := mv_F Z.1) (f := i + 1)
            refine wn_if0 (tgt := 60) hx hb (by omega) dX1_merge_36 rfl (fun h4 => ?_) (fun h4 => ?_)
            · rw [mg_n2 h4] at ih2
              refine lv_iinc (lv' := [(3, .int (nI (i + 1))), (2, .int (nI f)), (1, .int (nI Z.2)), (0, .ref (mg_h G))]) (v := (nI (i + 1))) (k := 0) hx hb dX1_merge_60 hl rfl (nI_1 _) (by decide) rfl (fun ls hl => ?_)
              refine lv_goto (tgt := 18) hx hb dX1_merge_63 rfl ?_
              exact ih2 ls H locs (by omega) (by omega) hl hC
            · refine lv_aload_n hx hb dX1_merge_39 rfl (lv_at hl 3 rfl) ?_
              refine lv_iload_n hx hb dX1_merge_40 rfl (lv_at hl 1 rfl) ?_
              refine lv_iload_n hx hb dX1_merge_41 rfl (lv_at hl 0 rfl) ?_
              refine mr_ci (As := [.int (nI f), .int (nI i)]) (rest := []) ⟨hx, hb, hml, hown, hts⟩ (k1_same l G Z.1 f i (by omega) (by omega)) (cwV 2 hts gX1_74 rfl rfl rfl hX1_same ⟨Nat.le_of_ble_eq_true rfl, Nat.le_of_ble_eq_true rfl⟩) hK hC rfl hl.1 rfl (Nat.le_of_ble_eq_true rfl) dX1_merge_42 ⟨Nat.zero_le _, Nat.zero_le _⟩ (fun v S1 H locs hp hC => ?_)
              obtain ⟨hv1, hS1⟩ := hp
              rw [hS1] at hC
              rcases (Bool.eq_false_or_eq_true (ms_same Z.1 f i)).symm with h5 | h5
              · skip
                have hv2 : v = 0 := by rw [hv1, h5]; rfl
                refine lv_if_ne (tgt := 51) hx hb dX1_merge_45 rfl (fun h9 => absurd hv2 h9) (fun _ => ?_)
                refine lv_goto (tgt := 60) hx hb dX1_merge_48 rfl ?_
                rw [mg_n3 h5] at ih2
                refine lv_iinc (lv' := [(3, .int (nI (i + 1))), (2, .int (nI f)), (1, .int (nI Z.2)), (0, .ref (mg_h G))]) (v := (nI (i + 1))) (k := 0) hx hb dX1_merge_60 hl rfl (nI_1 _) (by decide) rfl (fun ls hl => ?_)
                refine lv_goto (tgt := 18) hx hb dX1_merge_63 rfl ?_
                exact ih2 ls H locs (by omega) (by omega) hl hC
              · skip
                have hv2 : ¬ v = 0 := by rw [hv1, h5]; decide
                refine lv_if_ne (tgt := 51) hx hb dX1_merge_45 rfl (fun _ => ?_) (fun h9 => absurd h9 hv2)
                refine lv_aload_n hx hb dX1_merge_51 rfl (lv_at hl 3 rfl) ?_
                refine lv_iload_n hx hb dX1_merge_52 rfl (lv_at hl 1 rfl) ?_
                refine lv_iload_n hx hb dX1_merge_53 rfl (lv_at hl 0 rfl) ?_
                rw [← ks_e1 f, ← ks_e1 i]
                refine mr_cv (As := [.int (ks_e (f + 1)), .int (ks_e (i + 1))]) (rest := []) ⟨hx, hb, hml, hown, hts⟩ (k1_change l G Z.1 (f + 1) (i + 1) (by omega) (by omega) (by omega) hOi) (cwV 2 hts gX1_70 rfl rfl rfl hX1_change ⟨Nat.le_of_ble_eq_true rfl, Nat.le_of_ble_eq_true rfl⟩) hK hC rfl hl.1 rfl (Nat.le_of_ble_eq_true rfl) dX1_merge_54 ⟨Nat.zero_le _, Nat.zero_le _⟩ (fun S1 H locs hp hC => ?_)
                rw [hp] at hC
                rw [mg_t (by omega) h4 h5] at ih2
                refine lv_iinc (lv' := [(1, .int (nI (Z.2 + 1))), (3, .int (nI i)), (2, .int (nI f)), (0, .ref (mg_h G))]) (v := (nI (Z.2 + 1))) (k := 2) hx hb dX1_merge_57 hl rfl (nI_1 _) (by decide) rfl (fun ls hl => ?_)
                refine lv_iinc (lv' := [(3, .int (nI (i + 1))), (1, .int (nI (Z.2 + 1))), (2, .int (nI f)), (0, .ref (mg_h G))]) (v := (nI (i + 1))) (k := 1) hx hb dX1_merge_60 hl rfl (nI_1 _) (by decide) rfl (fun ls hl => ?_)
                refine lv_goto (tgt := 18) hx hb dX1_merge_63 rfl ?_
                have hl := lv_sub (l' := [(3, .int (nI (i + 1))), (2, .int (nI f)), (1, .int (nI (Z.2 + 1))), (0, .ref (mg_h G))]) hl [0, 2, 1, 3] rfl
                exact ih2 ls H locs (by omega) (by omega) hl hC
      exact loop2 f 0 ls H locs (by omega) (by omega) hl hC
  exact loop 200 0 ls H locs rfl (by omega) hl hC
set_option maxHeartbeats 4000000 in
set_option maxRecDepth 100000 in
/-- common(x, y, x2, y2) -/
theorem k1_common (l : Launch) (G : mg_T) (S : ms_T) (x y x2 y2 : Int32) (hO : mv_ok S) : Met l yX1_common wX1_common ({ frames := 2, cells := 0, slots := 0, locals := 64 }) (va_Pc [.ref (mg_h G), .int x, .int y, .int x2, .int y2] (mc_p G S)) (va_Qi (fun (v : Int32) (S' : ms_T) => (((∀ j a, ¬ mo_pg S x y j a) ∨ (∀ j a, ¬ mo_pg S x2 y2 j a)) ∧ v = nI 0 ∧ S' = ms_st S 1) ∨ ∃ j a i b, mo_pg S x y j a ∧ mo_pg S x2 y2 i b ∧ v = (if ms_F S (32 * j + a) ≠ 0 ∧ ms_F S (32 * j + a) = ms_F S (32 * i + b) then nI 1 else nI 0) ∧ S' = ms_st S 0) (mc_q G) (mg_A G)) 0 0 (mg_A G) := by
  refine Met.ofW (cc := cX1_common) (maxL := 5) (ret := (some .boolean)) (by decide) rfl ?_
  intro p e s m args below meth c s₁ B hml hv
  obtain ⟨rfl, hv⟩ := hv
  have hx := B.exec
  have hb := B.bytes
  have hr := B.returns
  have hlk := B.notSynchronized
  have hts := atoms_spec (ws := wX1_common) B.pre
  have hT : ∀ w ∈ nw_T, w.before _ s = true := fun w h => hts w (List.mem_cons_of_mem _ h)
  have hown : s.vm.findClass RX1 = some m.cls := findClass_of_methodNamed B.named
  have hK : mc_K G s := hv.2.2
  have hC := mc_start hv
  have hl := lv_entry ([.ref (mg_h G), .int x, .int y, .int x2, .int y2]) (n := 5) (Nat.le_of_ble_eq_true rfl)
  rw [lg_entry_eq]
  generalize (lg_sl ([.ref (mg_h G), .int x, .int y, .int x2, .int y2]) ++ List.replicate (5 - (lg_sl ([.ref (mg_h G), .int x, .int y, .int x2, .int y2])).length) Slot.unset).toArray = ls at hl ⊢
  have hl : lv_has ls 5 [(0, .ref (mg_h G)), (1, .int x), (2, .int y), (3, .int x2), (4, .int y2)] := hl
  refine lv_aload_n hx hb dX1_common_0 rfl (lv_at hl 0 rfl) ?_
  refine lv_iload_n hx hb dX1_common_1 rfl (lv_at hl 1 rfl) ?_
  refine lv_iload_n hx hb dX1_common_2 rfl (lv_at hl 2 rfl) ?_
  refine mr_ci (As := [.int x, .int y]) (rest := []) ⟨hx, hb, hml, hown, hts⟩ (k1_page l G S x y hO) (cwV 2 hts gX1_59 rfl rfl rfl hX1_page ⟨Nat.le_of_ble_eq_true rfl, Nat.le_of_ble_eq_true rfl⟩) hK hC rfl hl.1 rfl (Nat.le_of_ble_eq_true rfl) dX1_common_3 ⟨Nat.zero_le _, Nat.zero_le _⟩ (fun v S1 H locs hp hC => ?_)
  obtain ⟨hno, rfl, hS1⟩ | ⟨jj, aa, hpg, rfl, hS1⟩ := hp
  · skip
    rw [hS1] at hC
    have hC : mc_at G (mg_A G) s.heap (ms_st S 1) H locs := hC
    refine wn_if0 (tgt := 49) hx hb (by omega) dX1_common_6 rfl (fun _ => ?_) (fun h9 => absurd h9 (by omega))
    refine lv_iconst (v := (nI 0)) hx hb dX1_common_49 (by decide +kernel) ?_
    exact mr_zret hx hb hr hlk hC (by decide +kernel) (Or.inl ⟨Or.inl hno, rfl, rfl⟩) dX1_common_50
  · skip
    rw [hS1] at hC
    have hC : mc_at G (mg_A G) s.heap (ms_st S 0) H locs := hC
    refine wn_if0 (tgt := 49) hx hb (by omega) dX1_common_6 rfl (fun h9 => absurd h9 (by omega)) (fun _ => ?_)
    have hpg1 : mo_pg S x y jj aa := hpg
    refine lv_aload_n hx hb dX1_common_9 rfl (lv_at hl 0 rfl) ?_
    refine lv_iload_n hx hb dX1_common_10 rfl (lv_at hl 3 rfl) ?_
    refine lv_iload hx hb dX1_common_11 (lv_at hl 4 rfl) ?_
    refine mr_ci (As := [.int x2, .int y2]) (rest := []) ⟨hx, hb, hml, hown, hts⟩ (k1_page l G (ms_st S 0) x2 y2 hO) (cwV 2 hts gX1_59 rfl rfl rfl hX1_page ⟨Nat.le_of_ble_eq_true rfl, Nat.le_of_ble_eq_true rfl⟩) hK hC rfl hl.1 rfl (Nat.le_of_ble_eq_true rfl) dX1_common_13 ⟨Nat.zero_le _, Nat.zero_le _⟩ (fun v S1 H locs hp hC => ?_)
    obtain ⟨hno, rfl, hS1⟩ | ⟨ii, bb, hpg, rfl, hS1⟩ := hp
    · skip
      rw [hS1] at hC
      have hC : mc_at G (mg_A G) s.heap (ms_st S 1) H locs := hC
      refine wn_if0 (tgt := 49) hx hb (by omega) dX1_common_16 rfl (fun _ => ?_) (fun h9 => absurd h9 (by omega))
      refine lv_iconst (v := (nI 0)) hx hb dX1_common_49 (by decide +kernel) ?_
      exact mr_zret hx hb hr hlk hC (by decide +kernel) (Or.inl ⟨Or.inr hno, rfl, rfl⟩) dX1_common_50
    · skip
      rw [hS1] at hC
      have hC : mc_at G (mg_A G) s.heap (ms_st S 0) H locs := hC
      refine wn_if0 (tgt := 49) hx hb (by omega) dX1_common_16 rfl (fun h9 => absurd h9 (by omega)) (fun _ => ?_)
      have hpg2 : mo_pg S x2 y2 ii bb := hpg
      have hq1 := hpg1
      have hq2 := hpg2
      obtain ⟨⟨hj4, rfl, hjB⟩, rfl, hak⟩ := hq1
      obtain ⟨⟨hi4, rfl, hiB⟩, rfl, hbk⟩ := hq2
      have hP1 := hO.2.1 jj hj4
      have hP2 := hO.2.1 ii hi4
      have hF1 := hO.2.2 (32 * jj + aa) (by omega)
      have hF2 := hO.2.2 (32 * ii + bb) (by omega)
      have e1 : ms_F (ms_st S 0) (32 * jj + aa) = ms_F S (32 * jj + aa) := rfl
      have e2 : ms_F (ms_st S 0) (32 * ii + bb) = ms_F S (32 * ii + bb) := rfl
      refine lv_aload_n hx hb dX1_common_19 rfl (lv_at hl 0 rfl) ?_
      refine lv_iload_n hx hb dX1_common_20 rfl (lv_at hl 1 rfl) ?_
      refine lv_iload_n hx hb dX1_common_21 rfl (lv_at hl 2 rfl) ?_
      refine mr_ci (As := [.int (nI jj), .int (nI aa)]) (rest := []) ⟨hx, hb, hml, hown, hts⟩ (k1_at l G (ms_st S 0) jj aa (by omega) (by omega)) (cwV 2 hts gX1_34 rfl rfl rfl hX1_at ⟨Nat.le_of_ble_eq_true rfl, Nat.le_of_ble_eq_true rfl⟩) hK hC rfl hl.1 rfl (Nat.le_of_ble_eq_true rfl) dX1_common_22 ⟨Nat.zero_le _, Nat.zero_le _⟩ (fun v S1 H locs hp hC => ?_)
      obtain ⟨rfl, hS1⟩ := hp
      rw [hS1] at hC
      rw [e1]
      refine lv_iconst (v := (-1)) hx hb dX1_common_25 (by decide +kernel) ?_
      refine lv_icmp_eq (tgt := 49) hx hb dX1_common_26 rfl (fun h1 => ?_) (fun h1 => ?_)
      · refine lv_iconst (v := (nI 0)) hx hb dX1_common_49 (by decide +kernel) ?_
        have h0 := (ks_eN (by omega)).mp h1
        exact mr_zret hx hb hr hlk hC (by decide +kernel) (Or.inr ⟨jj, aa, ii, bb, hpg1, hpg2, (if_neg (fun w => w.1 h0)).symm, rfl⟩) dX1_common_50
      · refine lv_aload_n hx hb dX1_common_29 rfl (lv_at hl 0 rfl) ?_
        refine lv_iload_n hx hb dX1_common_30 rfl (lv_at hl 1 rfl) ?_
        refine lv_iload_n hx hb dX1_common_31 rfl (lv_at hl 2 rfl) ?_
        refine mr_ci (As := [.int (nI jj), .int (nI aa)]) (rest := []) ⟨hx, hb, hml, hown, hts⟩ (k1_at l G (ms_st S 0) jj aa (by omega) (by omega)) (cwV 2 hts gX1_34 rfl rfl rfl hX1_at ⟨Nat.le_of_ble_eq_true rfl, Nat.le_of_ble_eq_true rfl⟩) hK hC rfl hl.1 rfl (Nat.le_of_ble_eq_true rfl) dX1_common_32 ⟨Nat.zero_le _, Nat.zero_le _⟩ (fun v S1 H locs hp hC => ?_)
        obtain ⟨rfl, hS1⟩ := hp
        rw [hS1] at hC
        rw [e1]
        refine lv_aload_n hx hb dX1_common_35 rfl (lv_at hl 0 rfl) ?_
        refine lv_iload_n hx hb dX1_common_36 rfl (lv_at hl 3 rfl) ?_
        refine lv_iload hx hb dX1_common_37 (lv_at hl 4 rfl) ?_
        refine mr_ci (As := [.int (nI ii), .int (nI bb)]) (rest := [.int (ks_e (ms_F S (32 * jj + aa)))]) ⟨hx, hb, hml, hown, hts⟩ (k1_at l G (ms_st S 0) ii bb (by omega) (by omega)) (cwV 2 hts gX1_34 rfl rfl rfl hX1_at ⟨Nat.le_of_ble_eq_true rfl, Nat.le_of_ble_eq_true rfl⟩) hK hC rfl hl.1 rfl (Nat.le_of_ble_eq_true rfl) dX1_common_39 ⟨Nat.zero_le _, Nat.zero_le _⟩ (fun v S1 H locs hp hC => ?_)
        obtain ⟨rfl, hS1⟩ := hp
        rw [hS1] at hC
        rw [e2]
        refine lv_icmp_ne (tgt := 49) hx hb dX1_common_42 rfl (fun h2 => ?_) (fun h2 => ?_)
        · refine lv_iconst (v := (nI 0)) hx hb dX1_common_49 (by decide +kernel) ?_
          exact mr_zret hx hb hr hlk hC (by decide +kernel) (Or.inr ⟨jj, aa, ii, bb, hpg1, hpg2, (if_neg (fun w => h2 (by rw [w.2]))).symm, rfl⟩) dX1_common_50
        · refine lv_iconst (v := (nI 1)) hx hb dX1_common_45 (by decide +kernel) ?_
          refine lv_goto (tgt := 50) hx hb dX1_common_46 rfl ?_
          exact mr_zret hx hb hr hlk hC (by decide +kernel) (Or.inr ⟨jj, aa, ii, bb, hpg1, hpg2, (if_pos ⟨fun e => h1 (by rw [e]; rfl), (ks_e_eq (by omega) (by omega)).mp h2⟩).symm, rfl⟩) dX1_common_50
set_option maxHeartbeats 4000000 in
set_option maxRecDepth 100000 in
/-- holders(x, y) -/
theorem k1_holders (l : Launch) (G : mg_T) (S : ms_T) (x y : Int32) (hO : mv_ok S) : Met l yX1_holders wX1_holders ({ frames := 2, cells := 0, slots := 0, locals := 64 }) (va_Pc [.ref (mg_h G), .int x, .int y] (mc_p G S)) (va_Qi (fun (v : Int32) (S' : ms_T) => ((∀ j a, ¬ mo_pg S x y j a) ∧ v = nI 0 ∧ S' = ms_st S 1) ∨ ∃ j a, mo_pg S x y j a ∧ v = nI (if ms_F (ms_st S 0) (32 * j + a) = 0 then 0 else cn_f (mv_F (ms_st S 0)) (ms_F (ms_st S 0) (32 * j + a))) ∧ S' = ms_st S 0) (mc_q G) (mg_A G)) 0 0 (mg_A G) := by
  refine Met.ofW (cc := cX1_holders) (maxL := 3) (ret := (some .int)) (by decide) rfl ?_
  intro p e s m args below meth c s₁ B hml hv
  obtain ⟨rfl, hv⟩ := hv
  have hx := B.exec
  have hb := B.bytes
  have hr := B.returns
  have hlk := B.notSynchronized
  have hts := atoms_spec (ws := wX1_holders) B.pre
  have hT : ∀ w ∈ nw_T, w.before _ s = true := fun w h => hts w (List.mem_cons_of_mem _ h)
  have hown : s.vm.findClass RX1 = some m.cls := findClass_of_methodNamed B.named
  have hK : mc_K G s := hv.2.2
  have hC := mc_start hv
  have hl := lv_entry ([.ref (mg_h G), .int x, .int y]) (n := 3) (Nat.le_of_ble_eq_true rfl)
  rw [lg_entry_eq]
  generalize (lg_sl ([.ref (mg_h G), .int x, .int y]) ++ List.replicate (3 - (lg_sl ([.ref (mg_h G), .int x, .int y])).length) Slot.unset).toArray = ls at hl ⊢
  have hl : lv_has ls 3 [(0, .ref (mg_h G)), (1, .int x), (2, .int y)] := hl
  refine lv_aload_n hx hb dX1_holders_0 rfl (lv_at hl 0 rfl) ?_
  refine lv_iload_n hx hb dX1_holders_1 rfl (lv_at hl 1 rfl) ?_
  refine lv_iload_n hx hb dX1_holders_2 rfl (lv_at hl 2 rfl) ?_
  refine mr_ci (As := [.int x, .int y]) (rest := []) ⟨hx, hb, hml, hown, hts⟩ (k1_page l G S x y hO) (cwV 2 hts gX1_59 rfl rfl rfl hX1_page ⟨Nat.le_of_ble_eq_true rfl, Nat.le_of_ble_eq_true rfl⟩) hK hC rfl hl.1 rfl (Nat.le_of_ble_eq_true rfl) dX1_holders_3 ⟨Nat.zero_le _, Nat.zero_le _⟩ (fun v S1 H locs hp hC => ?_)
  obtain ⟨hno, rfl, hS1⟩ | ⟨jj, aa, hpg, rfl, hS1⟩ := hp
  · skip
    rw [hS1] at hC
    have hC : mc_at G (mg_A G) s.heap (ms_st S 1) H locs := hC
    refine wn_if0 (tgt := 19) hx hb (by omega) dX1_holders_6 rfl (fun _ => ?_) (fun h9 => absurd h9 (by omega))
    refine lv_iconst (v := (nI 0)) hx hb dX1_holders_19 (by decide +kernel) ?_
    refine lv_goto (tgt := 33) hx hb dX1_holders_20 rfl ?_
    exact mr_iret hx hb hr hlk hC (Or.inl ⟨hno, rfl, rfl⟩) dX1_holders_33
  · skip
    rw [hS1] at hC
    have hC : mc_at G (mg_A G) s.heap (ms_st S 0) H locs := hC
    refine wn_if0 (tgt := 19) hx hb (by omega) dX1_holders_6 rfl (fun h9 => absurd h9 (by omega)) (fun _ => ?_)
    obtain ⟨T, hT9⟩ : ∃ z, z = ms_st S 0 := ⟨_, rfl⟩
    rw [← hT9] at hC
    have hO9 : mv_ok T := by rw [hT9]; exact hO
    obtain ⟨⟨hj4, rfl, hjB⟩, rfl, hak⟩ := hpg
    have hP1 := hO.2.1 jj hj4
    have hpg : mo_pg S (nI jj) (nI aa) jj aa := ⟨⟨hj4, rfl, hjB⟩, rfl, hak⟩
    have hjB : ms_B T jj ≠ 0 := by rw [hT9]; exact hjB
    have hak : aa < ms_P T jj := by rw [hT9]; exact hak
    have h32 : aa < 32 := by
      have h := hO9.2.1 jj hj4
      omega
    have hF := hO9.2.2 (32 * jj + aa) (by omega)
    refine lv_aload_n hx hb dX1_holders_9 rfl (lv_at hl 0 rfl) ?_
    refine lv_iload_n hx hb dX1_holders_10 rfl (lv_at hl 1 rfl) ?_
    refine lv_iload_n hx hb dX1_holders_11 rfl (lv_at hl 2 rfl) ?_
    refine mr_ci (As := [.int (nI jj), .int (nI aa)]) (rest := []) ⟨hx, hb, hml, hown, hts⟩ (k1_at l G T jj aa (by omega) (by omega)) (cwV 2 hts gX1_34 rfl rfl rfl hX1_at ⟨Nat.le_of_ble_eq_true rfl, Nat.le_of_ble_eq_true rfl⟩) hK hC rfl hl.1 rfl (Nat.le_of_ble_eq_true rfl) dX1_holders_12 ⟨Nat.zero_le _, Nat.zero_le _⟩ (fun v S1 H locs hp hC => ?_)
    obtain ⟨rfl, hS1⟩ := hp
    rw [hS1] at hC
    refine lv_iconst (v := (-1)) hx hb dX1_holders_15 (by decide +kernel) ?_
    refine lv_icmp_ne (tgt := 23) hx hb dX1_holders_16 rfl (fun h1 => ?_) (fun h1 => ?_)
    · have h0 : ms_F T (32 * jj + aa) ≠ 0 := fun e => h1 (by rw [e]; rfl)
      refine lv_aload_n hx hb dX1_holders_23 rfl (lv_at hl 0 rfl) ?_
      refine lv_aload_n hx hb dX1_holders_24 rfl (lv_at hl 0 rfl) ?_
      refine lv_iload_n hx hb dX1_holders_25 rfl (lv_at hl 1 rfl) ?_
      refine lv_iload_n hx hb dX1_holders_26 rfl (lv_at hl 2 rfl) ?_
      refine mr_ci (As := [.int (nI jj), .int (nI aa)]) (rest := [.ref (mg_h G)]) ⟨hx, hb, hml, hown, hts⟩ (k1_at l G T jj aa (by omega) (by omega)) (cwV 2 hts gX1_34 rfl rfl rfl hX1_at ⟨Nat.le_of_ble_eq_true rfl, Nat.le_of_ble_eq_true rfl⟩) hK hC rfl hl.1 rfl (Nat.le_of_ble_eq_true rfl) dX1_holders_27 ⟨Nat.zero_le _, Nat.zero_le _⟩ (fun v S1 H locs hp hC => ?_)
      obtain ⟨rfl, hS1⟩ := hp
      rw [hS1] at hC
      refine mr_ci (As := [.int (ks_e (ms_F T (32 * jj + aa)))]) (rest := []) ⟨hx, hb, hml, hown, hts⟩ (k1_holdersOf l G T (ms_F T (32 * jj + aa)) (by omega) (by omega) hO9) (cwV 1 hts gX1_38 rfl rfl rfl hX1_holdersOf ⟨Nat.le_of_ble_eq_true rfl, Nat.le_of_ble_eq_true rfl⟩) hK hC rfl hl.1 rfl (Nat.le_of_ble_eq_true rfl) dX1_holders_30 ⟨Nat.zero_le _, Nat.zero_le _⟩ (fun v S1 H locs hp hC => ?_)
      obtain ⟨rfl, hS1⟩ := hp
      rw [hS1] at hC
      have hb9 := cn_f_b (F := mv_F T) (f := (ms_F T (32 * jj + aa)))
      subst hT9
      exact mr_iret hx hb hr hlk hC (Or.inr ⟨jj, aa, hpg, by rw [if_neg h0], rfl⟩) dX1_holders_33
    · refine lv_iconst (v := (nI 0)) hx hb dX1_holders_19 (by decide +kernel) ?_
      refine lv_goto (tgt := 33) hx hb dX1_holders_20 rfl ?_
      have h0 := (ks_eN (by omega)).mp h1
      subst hT9
      exact mr_iret hx hb hr hlk hC (Or.inr ⟨jj, aa, hpg, by rw [if_pos h0], rfl⟩) dX1_holders_33
set_option maxHeartbeats 4000000 in
set_option maxRecDepth 100000 in
/-- lay(x, y, x2, y2, z) -/
theorem k1_lay (l : Launch) (G : mg_T) (S : ms_T) (x y x2 y2 z : Int32) (hO : mv_ok S) : Met l yX1_lay wX1_lay ({ frames := 3, cells := 0, slots := 0, locals := 96 }) (va_Pc [.ref (mg_h G), .int x, .int y, .int x2, .int y2, .int z] (mc_p G S)) (va_Qi (fun (v : Int32) (S' : ms_T) => ((∀ j a jt at_ b, ¬ (mo_pgs S x y z j a b ∧ mo_pgs S x2 y2 z jt at_ b)) ∧ v = nI 0 ∧ S' = ms_st S 1) ∨ ∃ j a jt at_ b K, mo_pgs S x y z j a b ∧ mo_pgs S x2 y2 z jt at_ b ∧ v = nI (nz_f (cn_f (mv_F (ms_st S 0)))) - nI (nz_f (cn_f (mv_F (ms_uF (ms_uK (ms_st S 0) K) (mf_w (ms_F S) (32 * j + a) (fun i => ms_F S (32 * jt + (at_ + i))) b))))) ∧ S' = ms_uF (ms_uK (ms_st S 0) K) (mf_w (ms_F S) (32 * j + a) (fun i => ms_F S (32 * jt + (at_ + i))) b)) (mc_q G) (mg_A G)) 0 0 (mg_A G) := by
  refine Met.ofW (cc := cX1_lay) (maxL := 8) (ret := (some .int)) (by decide) rfl ?_
  intro p e s m args below meth c s₁ B hml hv
  obtain ⟨rfl, hv⟩ := hv
  have hx := B.exec
  have hb := B.bytes
  have hr := B.returns
  have hlk := B.notSynchronized
  have hts := atoms_spec (ws := wX1_lay) B.pre
  have hT : ∀ w ∈ nw_T, w.before _ s = true := fun w h => hts w (List.mem_cons_of_mem _ h)
  have hown : s.vm.findClass RX1 = some m.cls := findClass_of_methodNamed B.named
  have hK : mc_K G s := hv.2.2
  have hC := mc_start hv
  have hl := lv_entry ([.ref (mg_h G), .int x, .int y, .int x2, .int y2, .int z]) (n := 8) (Nat.le_of_ble_eq_true rfl)
  rw [lg_entry_eq]
  generalize (lg_sl ([.ref (mg_h G), .int x, .int y, .int x2, .int y2, .int z]) ++ List.replicate (8 - (lg_sl ([.ref (mg_h G), .int x, .int y, .int x2, .int y2, .int z])).length) Slot.unset).toArray = ls at hl ⊢
  have hl : lv_has ls 8 [(0, .ref (mg_h G)), (1, .int x), (2, .int y), (3, .int x2), (4, .int y2), (5, .int z)] := hl
  refine lv_aload_n hx hb dX1_lay_0 rfl (lv_at hl 0 rfl) ?_
  refine lv_iload_n hx hb dX1_lay_1 rfl (lv_at hl 1 rfl) ?_
  refine mr_ci (As := [.int x]) (rest := []) ⟨hx, hb, hml, hown, hts⟩ (k1_lacks l G S x hO) (cwV 1 hts gX1_30 rfl rfl rfl hX1_lacks ⟨Nat.le_of_ble_eq_true rfl, Nat.le_of_ble_eq_true rfl⟩) hK hC rfl hl.1 rfl (Nat.le_of_ble_eq_true rfl) dX1_lay_2 ⟨Nat.zero_le _, Nat.zero_le _⟩ (fun v S1 H locs hp hC => ?_)
  obtain ⟨hno, rfl, hS1⟩ | ⟨jj, hjj, rfl, hS1⟩ := hp
  · skip
    rw [hS1] at hC
    have hC : mc_at G (mg_A G) s.heap (ms_st S 1) H locs := hC
    refine wn_if1 (tgt := 16) hx hb (by omega) dX1_lay_5 rfl (fun _ => ?_) (fun h9 => absurd h9 (by omega))
    refine lv_iconst (v := (nI 0)) hx hb dX1_lay_16 (by decide +kernel) ?_
    exact mr_iret hx hb hr hlk hC (Or.inl ⟨fun j a jt at_ b hm => hno j hm.1.1, rfl, rfl⟩) dX1_lay_17
  · skip
    rw [hS1] at hC
    have hC : mc_at G (mg_A G) s.heap (ms_st S 0) H locs := hC
    refine wn_if1 (tgt := 16) hx hb (by omega) dX1_lay_5 rfl (fun h9 => absurd h9 (by omega)) (fun _ => ?_)
    refine lv_aload_n hx hb dX1_lay_8 rfl (lv_at hl 0 rfl) ?_
    refine lv_iload_n hx hb dX1_lay_9 rfl (lv_at hl 3 rfl) ?_
    have hrow1 : mo_row S x jj := hjj
    refine mr_ci (As := [.int x2]) (rest := []) ⟨hx, hb, hml, hown, hts⟩ (k1_lacks l G (ms_st S 0) x2 hO) (cwV 1 hts gX1_30 rfl rfl rfl hX1_lacks ⟨Nat.le_of_ble_eq_true rfl, Nat.le_of_ble_eq_true rfl⟩) hK hC rfl hl.1 rfl (Nat.le_of_ble_eq_true rfl) dX1_lay_10 ⟨Nat.zero_le _, Nat.zero_le _⟩ (fun v S1 H locs hp hC => ?_)
    obtain ⟨hno, rfl, hS1⟩ | ⟨j2, hj2, rfl, hS1⟩ := hp
    · skip
      rw [hS1] at hC
      have hC : mc_at G (mg_A G) s.heap (ms_st S 1) H locs := hC
      refine wn_if0 (tgt := 18) hx hb (by omega) dX1_lay_13 rfl (fun h9 => absurd h9 (by omega)) (fun _ => ?_)
      refine lv_iconst (v := (nI 0)) hx hb dX1_lay_16 (by decide +kernel) ?_
      exact mr_iret hx hb hr hlk hC (Or.inl ⟨fun j a jt at_ b hm => hno jt hm.2.1, rfl, rfl⟩) dX1_lay_17
    · skip
      rw [hS1] at hC
      have hC : mc_at G (mg_A G) s.heap (ms_st S 0) H locs := hC
      refine wn_if0 (tgt := 18) hx hb (by omega) dX1_lay_13 rfl (fun _ => ?_) (fun h9 => absurd h9 (by omega))
      have hrow2 : mo_row S x2 j2 := hj2
      have hq1 := hrow1
      have hq2 := hrow2
      obtain ⟨hj4, rfl, hjB⟩ := hq1
      obtain ⟨hi4, rfl, hiB⟩ := hq2
      have hP1 := hO.2.1 jj hj4
      have hP2 := hO.2.1 j2 hi4
      refine lv_aload_n hx hb dX1_lay_18 rfl (lv_at hl 0 rfl) ?_
      refine lv_iload_n hx hb dX1_lay_19 rfl (lv_at hl 1 rfl) ?_
      refine lv_iload_n hx hb dX1_lay_20 rfl (lv_at hl 2 rfl) ?_
      refine lv_iload hx hb dX1_lay_21 (lv_at hl 5 rfl) ?_
      refine mr_ci (As := [.int (nI jj), .int y, .int z]) (rest := []) ⟨hx, hb, hml, hown, hts⟩ (k1_none l G (ms_st S 0) jj hj4 y z hO) (cwV 3 hts gX1_46 rfl rfl rfl hX1_none ⟨Nat.le_of_ble_eq_true rfl, Nat.le_of_ble_eq_true rfl⟩) hK hC rfl hl.1 rfl (Nat.le_of_ble_eq_true rfl) dX1_lay_23 ⟨Nat.zero_le _, Nat.zero_le _⟩ (fun v S1 H locs hp hC => ?_)
      obtain ⟨hnn, rfl, hS1⟩ | ⟨aa, bb, rfl, rfl, hab, rfl, hS1⟩ := hp
      · skip
        rw [hS1] at hC
        refine wn_if1 (tgt := 41) hx hb (by omega) dX1_lay_26 rfl (fun _ => ?_) (fun h9 => absurd h9 (by omega))
        refine lv_aload_n hx hb dX1_lay_41 rfl (lv_at hl 0 rfl) ?_
        refine lv_iconst (v := (nI 1)) hx hb dX1_lay_42 (by decide +kernel) ?_
        refine mr_ci (As := [.int (nI 1)]) (rest := []) ⟨hx, hb, hml, hown, hts⟩ (k1_fail l G (ms_st S 0) 1) (cwV 1 hts gX1_50 rfl rfl rfl hX1_fail ⟨Nat.le_of_ble_eq_true rfl, Nat.le_of_ble_eq_true rfl⟩) hK hC rfl hl.1 rfl (Nat.le_of_ble_eq_true rfl) dX1_lay_43 ⟨Nat.zero_le _, Nat.zero_le _⟩ (fun v S1 H locs hp hC => ?_)
        obtain ⟨rfl, hS1⟩ := hp
        rw [hS1] at hC
        have hC : mc_at G (mg_A G) s.heap (ms_st S 1) H locs := hC
        exact mr_iret hx hb hr hlk hC (Or.inl ⟨fun j a jt at_ b hm => by
            have e0 := hm.1.1.1
            have e1 := (nI_eq (by omega) (by omega)).mp hm.1.1.2.1
            exact hnn a b ⟨hm.1.2.1, hm.1.2.2.1, by rw [e1]; exact hm.1.2.2.2⟩, rfl, rfl⟩) dX1_lay_46
      · skip
        rw [hS1] at hC
        refine wn_if1 (tgt := 41) hx hb (by omega) dX1_lay_26 rfl (fun h9 => absurd h9 (by omega)) (fun _ => ?_)
        have hab : aa + bb ≤ ms_P S jj := hab
        refine lv_aload_n hx hb dX1_lay_29 rfl (lv_at hl 0 rfl) ?_
        refine lv_iload_n hx hb dX1_lay_30 rfl (lv_at hl 3 rfl) ?_
        refine lv_iload hx hb dX1_lay_31 (lv_at hl 4 rfl) ?_
        refine lv_iload hx hb dX1_lay_33 (lv_at hl 5 rfl) ?_
        refine mr_ci (As := [.int (nI j2), .int y2, .int (nI bb)]) (rest := []) ⟨hx, hb, hml, hown, hts⟩ (k1_none l G (ms_st S 0) j2 hi4 y2 (nI bb) hO) (cwV 3 hts gX1_46 rfl rfl rfl hX1_none ⟨Nat.le_of_ble_eq_true rfl, Nat.le_of_ble_eq_true rfl⟩) hK hC rfl hl.1 rfl (Nat.le_of_ble_eq_true rfl) dX1_lay_35 ⟨Nat.zero_le _, Nat.zero_le _⟩ (fun v S1 H locs hp hC => ?_)
        obtain ⟨hnn, rfl, hS1⟩ | ⟨a2, b2, rfl, eb, hab2, rfl, hS1⟩ := hp
        · skip
          rw [hS1] at hC
          refine wn_if0 (tgt := 47) hx hb (by omega) dX1_lay_38 rfl (fun h9 => absurd h9 (by omega)) (fun _ => ?_)
          refine lv_aload_n hx hb dX1_lay_41 rfl (lv_at hl 0 rfl) ?_
          refine lv_iconst (v := (nI 1)) hx hb dX1_lay_42 (by decide +kernel) ?_
          refine mr_ci (As := [.int (nI 1)]) (rest := []) ⟨hx, hb, hml, hown, hts⟩ (k1_fail l G (ms_st S 0) 1) (cwV 1 hts gX1_50 rfl rfl rfl hX1_fail ⟨Nat.le_of_ble_eq_true rfl, Nat.le_of_ble_eq_true rfl⟩) hK hC rfl hl.1 rfl (Nat.le_of_ble_eq_true rfl) dX1_lay_43 ⟨Nat.zero_le _, Nat.zero_le _⟩ (fun v S1 H locs hp hC => ?_)
          obtain ⟨rfl, hS1⟩ := hp
          rw [hS1] at hC
          have hC : mc_at G (mg_A G) s.heap (ms_st S 1) H locs := hC
          exact mr_iret hx hb hr hlk hC (Or.inl ⟨fun j a jt at_ b hm => by
              have e0 := hm.2.1.1
              have e1 := (nI_eq (by omega) (by omega)).mp hm.2.1.2.1
              exact hnn at_ b ⟨hm.2.2.1, hm.2.2.2.1, by rw [e1]; exact hm.2.2.2.2⟩, rfl, rfl⟩) dX1_lay_46
        · skip
          rw [hS1] at hC
          refine wn_if0 (tgt := 47) hx hb (by omega) dX1_lay_38 rfl (fun _ => ?_) (fun h9 => absurd h9 (by omega))
          have hab2 : a2 + b2 ≤ ms_P S j2 := hab2
          obtain rfl : bb = b2 := (nI_eq (by omega) (by omega)).mp eb
          refine lv_aload_n hx hb dX1_lay_47 rfl (lv_at hl 0 rfl) ?_
          refine mr_ci (As := []) (rest := []) ⟨hx, hb, hml, hown, hts⟩ (k1_frames l G (ms_st S 0) hO) (cwV 0 hts gX1_53 rfl rfl rfl hX1_frames ⟨Nat.le_of_ble_eq_true rfl, Nat.le_of_ble_eq_true rfl⟩) hK hC rfl hl.1 rfl (Nat.le_of_ble_eq_true rfl) dX1_lay_48 ⟨Nat.zero_le _, Nat.zero_le _⟩ (fun v S1 H locs hp hC => ?_)
          obtain ⟨rfl, hS1⟩ := hp
          rw [hS1] at hC
          refine lv_istore (lv' := [(6, .int (nI (nz_f (cn_f (mv_F (ms_st S 0)))))), (0, .ref (mg_h G)), (1, .int (nI jj)), (2, .int (nI aa)), (3, .int (nI j2)), (4, .int (nI a2)), (5, .int (nI bb))]) hx hb dX1_lay_51 hl (by decide) rfl (fun ls hl => ?_)
          refine lv_iconst (v := (nI 0)) hx hb dX1_lay_53 (by decide +kernel) ?_
          refine lv_istore (lv' := [(7, .int (nI 0)), (6, .int (nI (nz_f (cn_f (mv_F (ms_st S 0)))))), (0, .ref (mg_h G)), (1, .int (nI jj)), (2, .int (nI aa)), (3, .int (nI j2)), (4, .int (nI a2)), (5, .int (nI bb))]) hx hb dX1_lay_54 hl (by decide) rfl (fun ls hl => ?_)
          obtain ⟨car, hcar⟩ : ∃ c : Nat → Nat, c = fun i => ms_F S (32 * j2 + (a2 + i)) := ⟨_, rfl⟩
          obtain ⟨v0, hv0⟩ : ∃ c : Int32, c = nI (nz_f (cn_f (mv_F (ms_st S 0)))) := ⟨_, rfl⟩
          have hK9 : ∀ (K : Nat → Int32) (ls : Array Slot) (H : Heap) (locs : List Loc), (∀ t, t < bb → K t = ks_e (car t)) → lv_has ls 8 [(7, .int (nI 0)), (6, .int (nI (nz_f (cn_f (mv_F (ms_st S 0)))))), (0, .ref (mg_h G)), (1, .int (nI jj)), (2, .int (nI aa)), (3, .int (nI j2)), (4, .int (nI a2)), (5, .int (nI bb))] → mc_at G (mg_A G) s.heap (ms_uF (ms_uK (ms_st S 0) K) (mf_w (ms_F S) (32 * jj + aa) car 0)) H locs → W p l e (headSpec wX1_lay ({ frames := 3, cells := 0, slots := 0, locals := 96 })).room s m [.ref (mg_h G), .int (nI jj), .int (nI aa), .int (nI j2), .int (nI a2), .int (nI bb)].toArray below meth c H locs 0 0 (MQ below (va_Qi (fun (v : Int32) (S' : ms_T) => ((∀ j a jt at_ b, ¬ (mo_pgs S (nI jj) (nI aa) (nI bb) j a b ∧ mo_pgs S (nI j2) (nI a2) (nI bb) jt at_ b)) ∧ v = nI 0 ∧ S' = ms_st S 1) ∨ ∃ j a jt at_ b K, mo_pgs S (nI jj) (nI aa) (nI bb) j a b ∧ mo_pgs S (nI j2) (nI a2) (nI bb) jt at_ b ∧ v = nI (nz_f (cn_f (mv_F (ms_st S 0)))) - nI (nz_f (cn_f (mv_F (ms_uF (ms_uK (ms_st S 0) K) (mf_w (ms_F S) (32 * j + a) (fun i => ms_F S (32 * jt + (at_ + i))) b))))) ∧ S' = ms_uF (ms_uK (ms_st S 0) K) (mf_w (ms_F S) (32 * j + a) (fun i => ms_F S (32 * jt + (at_ + i))) b)) (mc_q G) (mg_A G)) [.ref (mg_h G), .int (nI jj), .int (nI aa), .int (nI j2), .int (nI a2), .int (nI bb)].toArray s 0 0 (mg_A G)) (F0 m 89 ls []) := by
            intro K ls H locs hKt hl hC
            have loop2 : ∀ (n2 : Nat) (i : Nat) (ls : Array Slot) (H : Heap) (locs : List Loc), i + n2 = bb → i ≤ bb → lv_has ls 8 [(7, .int (nI i)), (6, .int (nI (nz_f (cn_f (mv_F (ms_st S 0)))))), (0, .ref (mg_h G)), (1, .int (nI jj)), (2, .int (nI aa)), (3, .int (nI j2)), (4, .int (nI a2)), (5, .int (nI bb))] → mc_at G (mg_A G) s.heap (ms_uF (ms_uK (ms_st S 0) K) (mf_w (ms_F S) (32 * jj + aa) car i)) H locs → W p l e (headSpec wX1_lay ({ frames := 3, cells := 0, slots := 0, locals := 96 })).room s m [.ref (mg_h G), .int (nI jj), .int (nI aa), .int (nI j2), .int (nI a2), .int (nI bb)].toArray below meth c H locs 0 0 (MQ below (va_Qi (fun (v : Int32) (S' : ms_T) => ((∀ j a jt at_ b, ¬ (mo_pgs S (nI jj) (nI aa) (nI bb) j a b ∧ mo_pgs S (nI j2) (nI a2) (nI bb) jt at_ b)) ∧ v = nI 0 ∧ S' = ms_st S 1) ∨ ∃ j a jt at_ b K, mo_pgs S (nI jj) (nI aa) (nI bb) j a b ∧ mo_pgs S (nI j2) (nI a2) (nI bb) jt at_ b ∧ v = nI (nz_f (cn_f (mv_F (ms_st S 0)))) - nI (nz_f (cn_f (mv_F (ms_uF (ms_uK (ms_st S 0) K) (mf_w (ms_F S) (32 * j + a) (fun i => ms_F S (32 * jt + (at_ + i))) b))))) ∧ S' = ms_uF (ms_uK (ms_st S 0) K) (mf_w (ms_F S) (32 * j + a) (fun i => ms_F S (32 * jt + (at_ + i))) b)) (mc_q G) (mg_A G)) [.ref (mg_h G), .int (nI jj), .int (nI aa), .int (nI j2), .int (nI a2), .int (nI bb)].toArray s 0 0 (mg_A G)) (F0 m 89 ls []) := by
              intro n2
              induction n2 with
              | zero =>
                intro i ls H locs hm2 hi hl hC
                refine lv_iload hx hb dX1_lay_89 (lv_at hl 0 rfl) ?_
                refine lv_iload hx hb dX1_lay_91 (lv_at hl 7 rfl) ?_
                refine wn_ge (tgt := 123) hx hb (by omega) (by omega) dX1_lay_93 rfl (fun _ => ?_) (fun h9 => absurd h9 (by omega))
                obtain rfl : i = bb := by omega
                refine lv_iload hx hb dX1_lay_123 (lv_at hl 1 rfl) ?_
                refine lv_aload_n hx hb dX1_lay_125 rfl (lv_at hl 2 rfl) ?_
                have hO9 : mv_ok (ms_uF (ms_uK (ms_st S 0) K) (mf_w (ms_F S) (32 * jj + aa) car i)) := ⟨hO.1, hO.2.1, fun t ht => by
                    show mf_w (ms_F S) (32 * jj + aa) car i t ≤ 200
                    unfold mf_w
                    split
                    · rw [hcar]
                      exact hO.2.2 _ (by omega)
                    · exact hO.2.2 t ht⟩
                refine mr_ci (As := []) (rest := [.int (nI (nz_f (cn_f (mv_F (ms_st S 0)))))]) ⟨hx, hb, hml, hown, hts⟩ (k1_frames l G (ms_uF (ms_uK (ms_st S 0) K) (mf_w (ms_F S) (32 * jj + aa) car i)) hO9) (cwV 0 hts gX1_53 rfl rfl rfl hX1_frames ⟨Nat.le_of_ble_eq_true rfl, Nat.le_of_ble_eq_true rfl⟩) hK hC rfl hl.1 rfl (Nat.le_of_ble_eq_true rfl) dX1_lay_126 ⟨Nat.zero_le _, Nat.zero_le _⟩ (fun v S1 H locs hp hC => ?_)
                obtain ⟨rfl, hS1⟩ := hp
                rw [hS1] at hC
                refine lv_isub hx hb dX1_lay_129 ?_
                rw [hcar] at hC ⊢
                exact mr_iret hx hb hr hlk hC (Or.inr ⟨jj, aa, j2, a2, i, K, ⟨hrow1, rfl, rfl, hab⟩, ⟨hrow2, rfl, rfl, hab2⟩, rfl, rfl⟩) dX1_lay_130
              | succ n2 ih2 =>
                intro i ls H locs hm2 hi hl hC
                refine lv_iload hx hb dX1_lay_89 (lv_at hl 0 rfl) ?_
                refine lv_iload hx hb dX1_lay_91 (lv_at hl 7 rfl) ?_
                refine wn_ge (tgt := 123) hx hb (by omega) (by omega) dX1_lay_93 rfl (fun h9 => absurd h9 (by omega)) (fun _ => ?_)
                have e8 : ms_K (ms_uF (ms_uK (ms_st S 0) K) (mf_w (ms_F S) (32 * jj + aa) car i)) i = ks_e (car i) := hKt i (by omega)
                refine lv_aload_n hx hb dX1_lay_96 rfl (lv_at hl 2 rfl) ?_
                refine mr_get hx hb hT mx_in hown hK hC 3 (by decide) (hT _ mw_373) rfl rfl dX1_lay_97 ?_
                refine lv_bipush (v := (nI 32)) hx hb dX1_lay_100 (by decide +kernel) ?_
                refine lv_iload_n hx hb dX1_lay_102 rfl (lv_at hl 3 rfl) ?_
                refine wn_mul hx hb dX1_lay_103 ?_
                refine lv_iload_n hx hb dX1_lay_104 rfl (lv_at hl 4 rfl) ?_
                refine wn_add hx hb dX1_lay_105 ?_
                refine lv_iload hx hb dX1_lay_106 (lv_at hl 0 rfl) ?_
                refine wn_add hx hb dX1_lay_108 ?_
                refine lv_aload_n hx hb dX1_lay_109 rfl (lv_at hl 2 rfl) ?_
                refine mr_get hx hb hT mx_in hown hK hC 5 (by decide) (hT _ mw_375) rfl rfl dX1_lay_110 ?_
                refine lv_iload hx hb dX1_lay_113 (lv_at hl 0 rfl) ?_
                refine mr_ldK hx hb hK hC (by omega) dX1_lay_115 ?_
                rw [e8]
                refine mr_stF (y := (car i)) hx hb hK hC (by omega) rfl dX1_lay_116 (fun H locs hC => ?_)
                have hC : mc_at G (mg_A G) s.heap (ms_uF (ms_uK (ms_st S 0) K) (mf_w (ms_F S) (32 * jj + aa) car (i + 1))) H locs := by rw [mf_s]; exact hC
                refine lv_iinc (lv' := [(7, .int (nI (i + 1))), (6, .int (nI (nz_f (cn_f (mv_F (ms_st S 0)))))), (0, .ref (mg_h G)), (1, .int (nI jj)), (2, .int (nI aa)), (3, .int (nI j2)), (4, .int (nI a2)), (5, .int (nI bb))]) (v := (nI (i + 1))) (k := 0) hx hb dX1_lay_117 hl rfl (nI_1 _) (by decide) rfl (fun ls hl => ?_)
                refine lv_goto (tgt := 89) hx hb dX1_lay_120 rfl ?_
                exact ih2 (i + 1) ls H locs (by omega) (by omega) hl hC
            exact loop2 bb 0 ls H locs (by omega) (by omega) hl hC
          have hC : mc_at G (mg_A G) s.heap (ms_uK (ms_st S 0) (ms_K S)) H locs := hC
          have loop : ∀ (n : Nat) (i : Nat) (K : Nat → Int32) (ls : Array Slot) (H : Heap) (locs : List Loc), i + n = bb → (∀ t, t < i → K t = ks_e (car t)) → lv_has ls 8 [(7, .int (nI i)), (6, .int (nI (nz_f (cn_f (mv_F (ms_st S 0)))))), (0, .ref (mg_h G)), (1, .int (nI jj)), (2, .int (nI aa)), (3, .int (nI j2)), (4, .int (nI a2)), (5, .int (nI bb))] → mc_at G (mg_A G) s.heap (ms_uK (ms_st S 0) K) H locs → W p l e (headSpec wX1_lay ({ frames := 3, cells := 0, slots := 0, locals := 96 })).room s m [.ref (mg_h G), .int (nI jj), .int (nI aa), .int (nI j2), .int (nI a2), .int (nI bb)].toArray below meth c H locs 0 0 (MQ below (va_Qi (fun (v : Int32) (S' : ms_T) => ((∀ j a jt at_ b, ¬ (mo_pgs S (nI jj) (nI aa) (nI bb) j a b ∧ mo_pgs S (nI j2) (nI a2) (nI bb) jt at_ b)) ∧ v = nI 0 ∧ S' = ms_st S 1) ∨ ∃ j a jt at_ b K, mo_pgs S (nI jj) (nI aa) (nI bb) j a b ∧ mo_pgs S (nI j2) (nI a2) (nI bb) jt at_ b ∧ v = nI (nz_f (cn_f (mv_F (ms_st S 0)))) - nI (nz_f (cn_f (mv_F (ms_uF (ms_uK (ms_st S 0) K) (mf_w (ms_F S) (32 * j + a) (fun i => ms_F S (32 * jt + (at_ + i))) b))))) ∧ S' = ms_uF (ms_uK (ms_st S 0) K) (mf_w (ms_F S) (32 * j + a) (fun i => ms_F S (32 * jt + (at_ + i))) b)) (mc_q G) (mg_A G)) [.ref (mg_h G), .int (nI jj), .int (nI aa), .int (nI j2), .int (nI a2), .int (nI bb)].toArray s 0 0 (mg_A G)) (F0 m 56 ls []) := by
            intro n
            induction n with
            | zero =>
              intro i K ls H locs hm hKt hl hC
              refine lv_iload hx hb dX1_lay_56 (lv_at hl 0 rfl) ?_
              refine lv_iload hx hb dX1_lay_58 (lv_at hl 7 rfl) ?_
              refine wn_ge (tgt := 86) hx hb (by omega) (by omega) dX1_lay_60 rfl (fun _ => ?_) (fun h9 => absurd h9 (by omega))
              refine lv_iconst (v := (nI 0)) hx hb dX1_lay_86 (by decide +kernel) ?_
              refine lv_istore (lv' := [(7, .int (nI 0)), (6, .int (nI (nz_f (cn_f (mv_F (ms_st S 0)))))), (0, .ref (mg_h G)), (1, .int (nI jj)), (2, .int (nI aa)), (3, .int (nI j2)), (4, .int (nI a2)), (5, .int (nI bb))]) hx hb dX1_lay_87 hl (by decide) rfl (fun ls hl => ?_)
              have hC : mc_at G (mg_A G) s.heap (ms_uF (ms_uK (ms_st S 0) K) (mf_w (ms_F S) (32 * jj + aa) car 0)) H locs := by rw [mf_0]; exact hC
              exact hK9 K ls H locs (fun t ht => hKt t (by omega)) hl hC
            | succ n ih =>
              intro i K ls H locs hm hKt hl hC
              refine lv_iload hx hb dX1_lay_56 (lv_at hl 0 rfl) ?_
              refine lv_iload hx hb dX1_lay_58 (lv_at hl 7 rfl) ?_
              refine wn_ge (tgt := 86) hx hb (by omega) (by omega) dX1_lay_60 rfl (fun h9 => absurd h9 (by omega)) (fun _ => ?_)
              refine lv_aload_n hx hb dX1_lay_63 rfl (lv_at hl 2 rfl) ?_
              refine mr_get hx hb hT mx_in hown hK hC 5 (by decide) (hT _ mw_375) rfl rfl dX1_lay_64 ?_
              refine lv_iload hx hb dX1_lay_67 (lv_at hl 0 rfl) ?_
              refine lv_aload_n hx hb dX1_lay_69 rfl (lv_at hl 2 rfl) ?_
              refine lv_iload_n hx hb dX1_lay_70 rfl (lv_at hl 5 rfl) ?_
              refine lv_iload hx hb dX1_lay_71 (lv_at hl 6 rfl) ?_
              refine lv_iload hx hb dX1_lay_73 (lv_at hl 0 rfl) ?_
              refine wn_add hx hb dX1_lay_75 ?_
              refine mr_ci (As := [.int (nI j2), .int (nI (a2 + i))]) (rest := [.int (nI i), .ref (mg_a G 4)]) ⟨hx, hb, hml, hown, hts⟩ (k1_at l G (ms_uK (ms_st S 0) K) j2 (a2 + i) (by omega) (by omega)) (cwV 2 hts gX1_34 rfl rfl rfl hX1_at ⟨Nat.le_of_ble_eq_true rfl, Nat.le_of_ble_eq_true rfl⟩) hK hC rfl hl.1 rfl (Nat.le_of_ble_eq_true rfl) dX1_lay_76 ⟨Nat.zero_le _, Nat.zero_le _⟩ (fun v S1 H locs hp hC => ?_)
              obtain ⟨rfl, hS1⟩ := hp
              rw [hS1] at hC
              have e8 : ks_e (ms_F (ms_uK (ms_st S 0) K) (32 * j2 + (a2 + i))) = ks_e (car i) := by rw [hcar]; rfl
              rw [e8]
              refine mr_stK hx hb hK hC (by omega) dX1_lay_79 (fun H locs hC => ?_)
              have hC : mc_at G (mg_A G) s.heap (ms_uK (ms_st S 0) (upd K i (ks_e (car i)))) H locs := hC
              refine lv_iinc (lv' := [(7, .int (nI (i + 1))), (6, .int (nI (nz_f (cn_f (mv_F (ms_st S 0)))))), (0, .ref (mg_h G)), (1, .int (nI jj)), (2, .int (nI aa)), (3, .int (nI j2)), (4, .int (nI a2)), (5, .int (nI bb))]) (v := (nI (i + 1))) (k := 0) hx hb dX1_lay_80 hl rfl (nI_1 _) (by decide) rfl (fun ls hl => ?_)
              refine lv_goto (tgt := 56) hx hb dX1_lay_83 rfl ?_
              exact ih (i + 1) (upd K i (ks_e (car i))) ls H locs (by omega) (lt_s (fun t ht => by rw [← hKt t ht]; exact if_neg (by omega)) (if_pos rfl)) hl hC
          exact loop bb 0 (ms_K S) ls H locs (by omega) lt_0 hl hC
set_option maxHeartbeats 4000000 in
set_option maxRecDepth 100000 in
/-- about(x, y) -/
theorem k1_about (l : Launch) (G : mg_T) (S : ms_T) (x y : Int32) (hO : mv_ok S) : Met l yX1_about wX1_about ({ frames := 2, cells := 0, slots := 0, locals := 64 }) (va_Pc [.ref (mg_h G), .int x, .int y] (mc_p G S)) (va_Qi (fun (v : Int32) (S' : ms_T) => ((∀ j, ¬ mo_row S x j) ∧ v = nI 0 ∧ S' = ms_st S 1) ∨ ∃ j, mo_row S x j ∧ ((y = nI 0 ∧ v = nI (ms_P S j) ∧ S' = ms_st S 0) ∨ (y = nI 1 ∧ v = nI (mo_n (ms_st S 0) j 0) ∧ S' = ms_st S 0) ∨ (y = nI 2 ∧ v = nI (ct_b (fun f => decide (0 < mo_n (ms_st S 0) j (f + 1))) 200) ∧ S' = ms_st S 0) ∨ (y = nI 3 ∧ v = nI (ct_b (fun f => decide (0 < mo_n (ms_st S 0) j (f + 1)) && decide (mo_n (ms_st S 0) j (f + 1) = cn_f (mv_F (ms_st S 0)) (f + 1))) 200) ∧ S' = ms_st S 0) ∨ (y = nI 4 ∧ v = su_r (fun p => ms_c (ms_st S 0) (ms_F (ms_st S 0) (32 * j + p))) (ms_P S j) ∧ S' = ms_st S 0) ∨ ((y.toInt < 0 ∨ 5 ≤ y.toInt) ∧ v = nI 0 ∧ S' = ms_st S 2))) (mc_q G) (mg_A G)) 0 0 (mg_A G) := by
  refine Met.ofW (cc := cX1_about) (maxL := 6) (ret := (some .int)) (by decide) rfl ?_
  intro p e s m args below meth c s₁ B hml hv
  obtain ⟨rfl, hv⟩ := hv
  have hx := B.exec
  have hb := B.bytes
  have hr := B.returns
  have hlk := B.notSynchronized
  have hts := atoms_spec (ws := wX1_about) B.pre
  have hT : ∀ w ∈ nw_T, w.before _ s = true := fun w h => hts w (List.mem_cons_of_mem _ h)
  have hown : s.vm.findClass RX1 = some m.cls := findClass_of_methodNamed B.named
  have hK : mc_K G s := hv.2.2
  have hC := mc_start hv
  have hl := lv_entry ([.ref (mg_h G), .int x, .int y]) (n := 6) (Nat.le_of_ble_eq_true rfl)
  rw [lg_entry_eq]
  generalize (lg_sl ([.ref (mg_h G), .int x, .int y]) ++ List.replicate (6 - (lg_sl ([.ref (mg_h G), .int x, .int y])).length) Slot.unset).toArray = ls at hl ⊢
  have hl : lv_has ls 6 [(0, .ref (mg_h G)), (1, .int x), (2, .int y)] := hl
  refine lv_aload_n hx hb dX1_about_0 rfl (lv_at hl 0 rfl) ?_
  refine lv_iload_n hx hb dX1_about_1 rfl (lv_at hl 1 rfl) ?_
  refine mr_ci (As := [.int x]) (rest := []) ⟨hx, hb, hml, hown, hts⟩ (k1_lacks l G S x hO) (cwV 1 hts gX1_30 rfl rfl rfl hX1_lacks ⟨Nat.le_of_ble_eq_true rfl, Nat.le_of_ble_eq_true rfl⟩) hK hC rfl hl.1 rfl (Nat.le_of_ble_eq_true rfl) dX1_about_2 ⟨Nat.zero_le _, Nat.zero_le _⟩ (fun v S1 H locs hp hC => ?_)
  obtain ⟨hno, rfl, hS1⟩ | ⟨jj, hjj, rfl, hS1⟩ := hp
  · skip
    rw [hS1] at hC
    have hC : mc_at G (mg_A G) s.heap (ms_st S 1) H locs := hC
    refine wn_if0 (tgt := 10) hx hb (by omega) dX1_about_5 rfl (fun h9 => absurd h9 (by omega)) (fun _ => ?_)
    refine lv_iconst (v := (nI 0)) hx hb dX1_about_8 (by decide +kernel) ?_
    exact mr_iret hx hb hr hlk hC (Or.inl ⟨hno, rfl, rfl⟩) dX1_about_9
  · skip
    rw [hS1] at hC
    have hC : mc_at G (mg_A G) s.heap (ms_st S 0) H locs := hC
    refine wn_if0 (tgt := 10) hx hb (by omega) dX1_about_5 rfl (fun _ => ?_) (fun h9 => absurd h9 (by omega))
    have hrow := hjj
    obtain ⟨hj4, rfl, hjB⟩ := hjj
    have hP1 := hO.2.1 jj hj4
    obtain ⟨T, hT9⟩ : ∃ z, z = ms_st S 0 := ⟨_, rfl⟩
    rw [← hT9] at hC
    have hO9 : mv_ok T := by rw [hT9]; exact hO
    have hP9 : ms_P T jj = ms_P S jj := by rw [hT9]; rfl
    refine lv_iconst (v := (nI 0)) hx hb dX1_about_10 (by decide +kernel) ?_
    refine lv_istore_n (lv' := [(3, .int (nI 0)), (0, .ref (mg_h G)), (1, .int (nI jj)), (2, .int y)]) hx hb dX1_about_11 rfl hl (by decide) rfl (fun ls hl => ?_)
    refine lv_iload_n hx hb dX1_about_12 rfl (lv_at hl 3 rfl) ?_
    rcases sw_n y (n := 5) (by omega) with ⟨i9, hi9, rfl⟩ | ho
    · obtain rfl | rfl | rfl | rfl | rfl : i9 = 0 ∨ i9 = 1 ∨ i9 = 2 ∨ i9 = 3 ∨ i9 = 4 := by omega
      · refine lv_tableIn (off := 35) (tgt := 48) hx hb dX1_about_13 (by decide +kernel) (by decide +kernel) (by decide +kernel) rfl ?_
        refine lv_aload_n hx hb dX1_about_48 rfl (lv_at hl 1 rfl) ?_
        refine mr_get hx hb hT mx_in hown hK hC 2 (by decide) (hT _ mw_372) rfl rfl dX1_about_49 ?_
        refine lv_iload_n hx hb dX1_about_52 rfl (lv_at hl 2 rfl) ?_
        refine mr_ldP hx hb hK hC (by omega) dX1_about_53 ?_
        rw [hP9]
        subst hT9
        exact mr_iret hx hb hr hlk hC (Or.inr ⟨jj, hrow, Or.inl (⟨rfl, rfl, rfl⟩)⟩) dX1_about_54
      · refine lv_tableIn (off := 42) (tgt := 55) hx hb dX1_about_13 (by decide +kernel) (by decide +kernel) (by decide +kernel) rfl ?_
        refine lv_aload_n hx hb dX1_about_55 rfl (lv_at hl 1 rfl) ?_
        refine lv_iload_n hx hb dX1_about_56 rfl (lv_at hl 2 rfl) ?_
        refine lv_iconst (v := (-1)) hx hb dX1_about_57 (by decide +kernel) ?_
        have e0 : (-1 : Int32) = ks_e 0 := rfl
        rw [e0]
        refine mr_ci (As := [.int (nI jj), .int (ks_e 0)]) (rest := []) ⟨hx, hb, hml, hown, hts⟩ (k1_own0 l G T jj 0 (by omega) (by omega) hO9) (cwV 2 hts gX1_77 rfl rfl rfl hX1_own0 ⟨Nat.le_of_ble_eq_true rfl, Nat.le_of_ble_eq_true rfl⟩) hK hC rfl hl.1 rfl (Nat.le_of_ble_eq_true rfl) dX1_about_58 ⟨Nat.zero_le _, Nat.zero_le _⟩ (fun v S1 H locs hp hC => ?_)
        obtain ⟨hv1, hS1⟩ := hp
        have hv1 : v = nI (mo_n T jj 0) := hv1
        subst hv1
        rw [hS1] at hC
        have hb8 := mo_nb (g := 0) hO9 (j := jj) (by omega)
        subst hT9
        exact mr_iret hx hb hr hlk hC (Or.inr ⟨jj, hrow, Or.inr (Or.inl (⟨rfl, rfl, rfl⟩))⟩) dX1_about_61
      · refine lv_tableIn (off := 49) (tgt := 62) hx hb dX1_about_13 (by decide +kernel) (by decide +kernel) (by decide +kernel) rfl ?_
        refine lv_iconst (v := (nI 0)) hx hb dX1_about_62 (by decide +kernel) ?_
        refine lv_istore (lv' := [(4, .int (nI 0)), (3, .int (nI 0)), (0, .ref (mg_h G)), (1, .int (nI jj)), (2, .int (nI 2))]) hx hb dX1_about_63 hl (by decide) rfl (fun ls hl => ?_)
        have loop : ∀ (n : Nat) (i : Nat) (d : Nat) (ls : Array Slot) (H : Heap) (locs : List Loc), i + n = 200 → d = ct_b (fun f => decide (0 < mo_n T jj (f + 1))) i → lv_has ls 6 [(4, .int (nI i)), (3, .int (nI d)), (0, .ref (mg_h G)), (1, .int (nI jj)), (2, .int (nI 2))] → mc_at G (mg_A G) s.heap T H locs → W p l e (headSpec wX1_about ({ frames := 2, cells := 0, slots := 0, locals := 64 })).room s m [.ref (mg_h G), .int (nI jj), .int (nI 2)].toArray below meth c H locs 0 0 (MQ below (va_Qi (fun (v : Int32) (S' : ms_T) => ((∀ j, ¬ mo_row S (nI jj) j) ∧ v = nI 0 ∧ S' = ms_st S 1) ∨ ∃ j, mo_row S (nI jj) j ∧ (((nI 2) = nI 0 ∧ v = nI (ms_P S j) ∧ S' = ms_st S 0) ∨ ((nI 2) = nI 1 ∧ v = nI (mo_n (ms_st S 0) j 0) ∧ S' = ms_st S 0) ∨ ((nI 2) = nI 2 ∧ v = nI (ct_b (fun f => decide (0 < mo_n (ms_st S 0) j (f + 1))) 200) ∧ S' = ms_st S 0) ∨ ((nI 2) = nI 3 ∧ v = nI (ct_b (fun f => decide (0 < mo_n (ms_st S 0) j (f + 1)) && decide (mo_n (ms_st S 0) j (f + 1) = cn_f (mv_F (ms_st S 0)) (f + 1))) 200) ∧ S' = ms_st S 0) ∨ ((nI 2) = nI 4 ∧ v = su_r (fun p => ms_c (ms_st S 0) (ms_F (ms_st S 0) (32 * j + p))) (ms_P S j) ∧ S' = ms_st S 0) ∨ (((nI 2).toInt < 0 ∨ 5 ≤ (nI 2).toInt) ∧ v = nI 0 ∧ S' = ms_st S 2))) (mc_q G) (mg_A G)) [.ref (mg_h G), .int (nI jj), .int (nI 2)].toArray s 0 0 (mg_A G)) (F0 m 65 ls []) := by
          intro n
          induction n with
          | zero =>
            intro i d ls H locs hm hc hl hC
            refine lv_iload hx hb dX1_about_65 (lv_at hl 0 rfl) ?_
            refine lv_sipush (v := (nI 200)) hx hb dX1_about_67 (by decide +kernel) ?_
            refine wn_ge (tgt := 92) hx hb (by omega) (by omega) dX1_about_70 rfl (fun _ => ?_) (fun h9 => absurd h9 (by omega))
            obtain rfl : i = 200 := by omega
            refine lv_iload_n hx hb dX1_about_92 rfl (lv_at hl 1 rfl) ?_
            subst hT9
            exact mr_iret hx hb hr hlk hC (Or.inr ⟨jj, hrow, Or.inr (Or.inr (Or.inl (⟨rfl, by rw [hc], rfl⟩)))⟩) dX1_about_93
          | succ n ih =>
            intro i d ls H locs hm hc hl hC
            refine lv_iload hx hb dX1_about_65 (lv_at hl 0 rfl) ?_
            refine lv_sipush (v := (nI 200)) hx hb dX1_about_67 (by decide +kernel) ?_
            refine wn_ge (tgt := 92) hx hb (by omega) (by omega) dX1_about_70 rfl (fun h9 => absurd h9 (by omega)) (fun _ => ?_)
            refine lv_aload_n hx hb dX1_about_73 rfl (lv_at hl 2 rfl) ?_
            refine lv_iload_n hx hb dX1_about_74 rfl (lv_at hl 3 rfl) ?_
            refine lv_iload hx hb dX1_about_75 (lv_at hl 0 rfl) ?_
            rw [← ks_e1 i]
            refine mr_ci (As := [.int (nI jj), .int (ks_e (i + 1))]) (rest := []) ⟨hx, hb, hml, hown, hts⟩ (k1_own0 l G T jj (i + 1) hj4 (by omega) hO9) (cwV 2 hts gX1_77 rfl rfl rfl hX1_own0 ⟨Nat.le_of_ble_eq_true rfl, Nat.le_of_ble_eq_true rfl⟩) hK hC rfl hl.1 rfl (Nat.le_of_ble_eq_true rfl) dX1_about_77 ⟨Nat.zero_le _, Nat.zero_le _⟩ (fun v S1 H locs hp hC => ?_)
            obtain ⟨hv1, hS1⟩ := hp
            have hv1 : v = nI (mo_n T jj (i + 1)) := hv1
            subst hv1
            rw [hS1] at hC
            have hb8 := mo_nb (g := (i + 1)) hO9 (j := jj) hj4
            refine wn_ifle (tgt := 86) hx hb (by omega) dX1_about_80 rfl (fun h3 => ?_) (fun h3 => ?_)
            · refine lv_iinc (lv' := [(4, .int (nI (i + 1))), (3, .int (nI d)), (0, .ref (mg_h G)), (1, .int (nI jj)), (2, .int (nI 2))]) (v := (nI (i + 1))) (k := 0) hx hb dX1_about_86 hl rfl (nI_1 _) (by decide) rfl (fun ls hl => ?_)
              refine lv_goto (tgt := 65) hx hb dX1_about_89 rfl ?_
              exact ih (i + 1) d ls H locs (by omega) (by rw [hc]; exact (ct_b_f (q := (fun f => decide (0 < mo_n T jj (f + 1)))) (decide_eq_false (by omega))).symm) hl hC
            · refine lv_iinc (lv' := [(3, .int (nI (d + 1))), (4, .int (nI i)), (0, .ref (mg_h G)), (1, .int (nI jj)), (2, .int (nI 2))]) (v := (nI (d + 1))) (k := 1) hx hb dX1_about_83 hl rfl (nI_1 _) (by decide) rfl (fun ls hl => ?_)
              refine lv_iinc (lv' := [(4, .int (nI (i + 1))), (3, .int (nI (d + 1))), (0, .ref (mg_h G)), (1, .int (nI jj)), (2, .int (nI 2))]) (v := (nI (i + 1))) (k := 1) hx hb dX1_about_86 hl rfl (nI_1 _) (by decide) rfl (fun ls hl => ?_)
              refine lv_goto (tgt := 65) hx hb dX1_about_89 rfl ?_
              exact ih (i + 1) (d + 1) ls H locs (by omega) (by rw [hc]; exact (ct_b_t (q := (fun f => decide (0 < mo_n T jj (f + 1)))) (decide_eq_true (by omega))).symm) hl hC
        exact loop 200 0 0 ls H locs rfl rfl hl hC
      · refine lv_tableIn (off := 81) (tgt := 94) hx hb dX1_about_13 (by decide +kernel) (by decide +kernel) (by decide +kernel) rfl ?_
        refine lv_iconst (v := (nI 0)) hx hb dX1_about_94 (by decide +kernel) ?_
        refine lv_istore (lv' := [(4, .int (nI 0)), (3, .int (nI 0)), (0, .ref (mg_h G)), (1, .int (nI jj)), (2, .int (nI 3))]) hx hb dX1_about_95 hl (by decide) rfl (fun ls hl => ?_)
        have loop : ∀ (n : Nat) (i : Nat) (d : Nat) (ls : Array Slot) (H : Heap) (locs : List Loc), i + n = 200 → d = ct_b (fun f => decide (0 < mo_n T jj (f + 1)) && decide (mo_n T jj (f + 1) = cn_f (mv_F T) (f + 1))) i → lv_has ls 6 [(4, .int (nI i)), (3, .int (nI d)), (0, .ref (mg_h G)), (1, .int (nI jj)), (2, .int (nI 3))] → mc_at G (mg_A G) s.heap T H locs → W p l e (headSpec wX1_about ({ frames := 2, cells := 0, slots := 0, locals := 64 })).room s m [.ref (mg_h G), .int (nI jj), .int (nI 3)].toArray below meth c H locs 0 0 (MQ below (va_Qi (fun (v : Int32) (S' : ms_T) => ((∀ j, ¬ mo_row S (nI jj) j) ∧ v = nI 0 ∧ S' = ms_st S 1) ∨ ∃ j, mo_row S (nI jj) j ∧ (((nI 3) = nI 0 ∧ v = nI (ms_P S j) ∧ S' = ms_st S 0) ∨ ((nI 3) = nI 1 ∧ v = nI (mo_n (ms_st S 0) j 0) ∧ S' = ms_st S 0) ∨ ((nI 3) = nI 2 ∧ v = nI (ct_b (fun f => decide (0 < mo_n (ms_st S 0) j (f + 1))) 200) ∧ S' = ms_st S 0) ∨ ((nI 3) = nI 3 ∧ v = nI (ct_b (fun f => decide (0 < mo_n (ms_st S 0) j (f + 1)) && decide (mo_n (ms_st S 0) j (f + 1) = cn_f (mv_F (ms_st S 0)) (f + 1))) 200) ∧ S' = ms_st S 0) ∨ ((nI 3) = nI 4 ∧ v = su_r (fun p => ms_c (ms_st S 0) (ms_F (ms_st S 0) (32 * j + p))) (ms_P S j) ∧ S' = ms_st S 0) ∨ (((nI 3).toInt < 0 ∨ 5 ≤ (nI 3).toInt) ∧ v = nI 0 ∧ S' = ms_st S 2))) (mc_q G) (mg_A G)) [.ref (mg_h G), .int (nI jj), .int (nI 3)].toArray s 0 0 (mg_A G)) (F0 m 97 ls []) := by
          intro n
          induction n with
          | zero =>
            intro i d ls H locs hm hc hl hC
            refine lv_iload hx hb dX1_about_97 (lv_at hl 0 rfl) ?_
            refine lv_sipush (v := (nI 200)) hx hb dX1_about_99 (by decide +kernel) ?_
            refine wn_ge (tgt := 140) hx hb (by omega) (by omega) dX1_about_102 rfl (fun _ => ?_) (fun h9 => absurd h9 (by omega))
            obtain rfl : i = 200 := by omega
            refine lv_iload_n hx hb dX1_about_140 rfl (lv_at hl 1 rfl) ?_
            subst hT9
            exact mr_iret hx hb hr hlk hC (Or.inr ⟨jj, hrow, Or.inr (Or.inr (Or.inr (Or.inl (⟨rfl, by rw [hc], rfl⟩))))⟩) dX1_about_141
          | succ n ih =>
            intro i d ls H locs hm hc hl hC
            refine lv_iload hx hb dX1_about_97 (lv_at hl 0 rfl) ?_
            refine lv_sipush (v := (nI 200)) hx hb dX1_about_99 (by decide +kernel) ?_
            refine wn_ge (tgt := 140) hx hb (by omega) (by omega) dX1_about_102 rfl (fun h9 => absurd h9 (by omega)) (fun _ => ?_)
            refine lv_aload_n hx hb dX1_about_105 rfl (lv_at hl 2 rfl) ?_
            refine lv_iload_n hx hb dX1_about_106 rfl (lv_at hl 3 rfl) ?_
            refine lv_iload hx hb dX1_about_107 (lv_at hl 0 rfl) ?_
            rw [← ks_e1 i]
            refine mr_ci (As := [.int (nI jj), .int (ks_e (i + 1))]) (rest := []) ⟨hx, hb, hml, hown, hts⟩ (k1_own0 l G T jj (i + 1) hj4 (by omega) hO9) (cwV 2 hts gX1_77 rfl rfl rfl hX1_own0 ⟨Nat.le_of_ble_eq_true rfl, Nat.le_of_ble_eq_true rfl⟩) hK hC rfl hl.1 rfl (Nat.le_of_ble_eq_true rfl) dX1_about_109 ⟨Nat.zero_le _, Nat.zero_le _⟩ (fun v S1 H locs hp hC => ?_)
            obtain ⟨hv1, hS1⟩ := hp
            have hv1 : v = nI (mo_n T jj (i + 1)) := hv1
            subst hv1
            rw [hS1] at hC
            have hb8 := mo_nb (g := (i + 1)) hO9 (j := jj) hj4
            refine wn_ifle (tgt := 134) hx hb (by omega) dX1_about_112 rfl (fun h3 => ?_) (fun h3 => ?_)
            · refine lv_iinc (lv' := [(4, .int (nI (i + 1))), (3, .int (nI d)), (0, .ref (mg_h G)), (1, .int (nI jj)), (2, .int (nI 3))]) (v := (nI (i + 1))) (k := 0) hx hb dX1_about_134 hl rfl (nI_1 _) (by decide) rfl (fun ls hl => ?_)
              refine lv_goto (tgt := 97) hx hb dX1_about_137 rfl ?_
              exact ih (i + 1) d ls H locs (by omega) (by rw [hc]; exact (ct_b_f (q := (fun f => decide (0 < mo_n T jj (f + 1)) && decide (mo_n T jj (f + 1) = cn_f (mv_F T) (f + 1)))) (by show (decide _ && _) = false; rw [decide_eq_false (by omega)]; rfl)).symm) hl hC
            · refine lv_aload_n hx hb dX1_about_115 rfl (lv_at hl 2 rfl) ?_
              refine lv_iload_n hx hb dX1_about_116 rfl (lv_at hl 3 rfl) ?_
              refine lv_iload hx hb dX1_about_117 (lv_at hl 0 rfl) ?_
              rw [← ks_e1 i]
              refine mr_ci (As := [.int (nI jj), .int (ks_e (i + 1))]) (rest := []) ⟨hx, hb, hml, hown, hts⟩ (k1_own0 l G T jj (i + 1) hj4 (by omega) hO9) (cwV 2 hts gX1_77 rfl rfl rfl hX1_own0 ⟨Nat.le_of_ble_eq_true rfl, Nat.le_of_ble_eq_true rfl⟩) hK hC rfl hl.1 rfl (Nat.le_of_ble_eq_true rfl) dX1_about_119 ⟨Nat.zero_le _, Nat.zero_le _⟩ (fun v S1 H locs hp hC => ?_)
              obtain ⟨hv1, hS1⟩ := hp
              have hv1 : v = nI (mo_n T jj (i + 1)) := hv1
              subst hv1
              rw [hS1] at hC
              have hb8 := mo_nb (g := (i + 1)) hO9 (j := jj) hj4
              refine lv_aload_n hx hb dX1_about_122 rfl (lv_at hl 2 rfl) ?_
              refine lv_iload hx hb dX1_about_123 (lv_at hl 0 rfl) ?_
              rw [← ks_e1 i]
              refine mr_ci (As := [.int (ks_e (i + 1))]) (rest := [.int (nI (mo_n T jj (i + 1)))]) ⟨hx, hb, hml, hown, hts⟩ (k1_holdersOf l G T (i + 1) (by omega) (by omega) hO9) (cwV 1 hts gX1_38 rfl rfl rfl hX1_holdersOf ⟨Nat.le_of_ble_eq_true rfl, Nat.le_of_ble_eq_true rfl⟩) hK hC rfl hl.1 rfl (Nat.le_of_ble_eq_true rfl) dX1_about_125 ⟨Nat.zero_le _, Nat.zero_le _⟩ (fun v S1 H locs hp hC => ?_)
              obtain ⟨rfl, hS1⟩ := hp
              rw [hS1] at hC
              have hb9 := cn_f_b (F := mv_F T) (f := i + 1)
              refine wn_ne (tgt := 134) hx hb (by omega) (by omega) dX1_about_128 rfl (fun h4 => ?_) (fun h4 => ?_)
              · refine lv_iinc (lv' := [(4, .int (nI (i + 1))), (3, .int (nI d)), (0, .ref (mg_h G)), (1, .int (nI jj)), (2, .int (nI 3))]) (v := (nI (i + 1))) (k := 0) hx hb dX1_about_134 hl rfl (nI_1 _) (by decide) rfl (fun ls hl => ?_)
                refine lv_goto (tgt := 97) hx hb dX1_about_137 rfl ?_
                exact ih (i + 1) d ls H locs (by omega) (by rw [hc]; exact (ct_b_f (q := (fun f => decide (0 < mo_n T jj (f + 1)) && decide (mo_n T jj (f + 1) = cn_f (mv_F T) (f + 1)))) (by show (_ && decide (mo_n T jj (i + 1) = cn_f (mv_F T) (i + 1))) = false; rw [decide_eq_false h4, Bool.and_false])).symm) hl hC
              · refine lv_iinc (lv' := [(3, .int (nI (d + 1))), (4, .int (nI i)), (0, .ref (mg_h G)), (1, .int (nI jj)), (2, .int (nI 3))]) (v := (nI (d + 1))) (k := 1) hx hb dX1_about_131 hl rfl (nI_1 _) (by decide) rfl (fun ls hl => ?_)
                refine lv_iinc (lv' := [(4, .int (nI (i + 1))), (3, .int (nI (d + 1))), (0, .ref (mg_h G)), (1, .int (nI jj)), (2, .int (nI 3))]) (v := (nI (i + 1))) (k := 1) hx hb dX1_about_134 hl rfl (nI_1 _) (by decide) rfl (fun ls hl => ?_)
                refine lv_goto (tgt := 97) hx hb dX1_about_137 rfl ?_
                exact ih (i + 1) (d + 1) ls H locs (by omega) (by rw [hc]; exact (ct_b_t (q := (fun f => decide (0 < mo_n T jj (f + 1)) && decide (mo_n T jj (f + 1) = cn_f (mv_F T) (f + 1)))) (by show (decide (0 < mo_n T jj (i + 1)) && decide (mo_n T jj (i + 1) = cn_f (mv_F T) (i + 1))) = true; rw [decide_eq_true h4, decide_eq_true (show 0 < mo_n T jj (i + 1) by omega)]; rfl)).symm) hl hC
        exact loop 200 0 0 ls H locs rfl rfl hl hC
      · refine lv_tableIn (off := 129) (tgt := 142) hx hb dX1_about_13 (by decide +kernel) (by decide +kernel) (by decide +kernel) rfl ?_
        refine lv_iconst (v := (nI 0)) hx hb dX1_about_142 (by decide +kernel) ?_
        refine lv_istore (lv' := [(4, .int (nI 0)), (3, .int (nI 0)), (0, .ref (mg_h G)), (1, .int (nI jj)), (2, .int (nI 4))]) hx hb dX1_about_143 hl (by decide) rfl (fun ls hl => ?_)
        have loop : ∀ (n : Nat) (i : Nat) (x : Int32) (ls : Array Slot) (H : Heap) (locs : List Loc), i + n = ms_P S jj → x = su_r (fun p => ms_c T (ms_F T (32 * jj + p))) i → lv_has ls 6 [(4, .int (nI i)), (3, .int x), (0, .ref (mg_h G)), (1, .int (nI jj)), (2, .int (nI 4))] → mc_at G (mg_A G) s.heap T H locs → W p l e (headSpec wX1_about ({ frames := 2, cells := 0, slots := 0, locals := 64 })).room s m [.ref (mg_h G), .int (nI jj), .int (nI 4)].toArray below meth c H locs 0 0 (MQ below (va_Qi (fun (v : Int32) (S' : ms_T) => ((∀ j, ¬ mo_row S (nI jj) j) ∧ v = nI 0 ∧ S' = ms_st S 1) ∨ ∃ j, mo_row S (nI jj) j ∧ (((nI 4) = nI 0 ∧ v = nI (ms_P S j) ∧ S' = ms_st S 0) ∨ ((nI 4) = nI 1 ∧ v = nI (mo_n (ms_st S 0) j 0) ∧ S' = ms_st S 0) ∨ ((nI 4) = nI 2 ∧ v = nI (ct_b (fun f => decide (0 < mo_n (ms_st S 0) j (f + 1))) 200) ∧ S' = ms_st S 0) ∨ ((nI 4) = nI 3 ∧ v = nI (ct_b (fun f => decide (0 < mo_n (ms_st S 0) j (f + 1)) && decide (mo_n (ms_st S 0) j (f + 1) = cn_f (mv_F (ms_st S 0)) (f + 1))) 200) ∧ S' = ms_st S 0) ∨ ((nI 4) = nI 4 ∧ v = su_r (fun p => ms_c (ms_st S 0) (ms_F (ms_st S 0) (32 * j + p))) (ms_P S j) ∧ S' = ms_st S 0) ∨ (((nI 4).toInt < 0 ∨ 5 ≤ (nI 4).toInt) ∧ v = nI 0 ∧ S' = ms_st S 2))) (mc_q G) (mg_A G)) [.ref (mg_h G), .int (nI jj), .int (nI 4)].toArray s 0 0 (mg_A G)) (F0 m 145 ls []) := by
          intro n
          induction n with
          | zero =>
            intro i x ls H locs hm hc hl hC
            refine lv_iload hx hb dX1_about_145 (lv_at hl 0 rfl) ?_
            refine lv_aload_n hx hb dX1_about_147 rfl (lv_at hl 2 rfl) ?_
            refine mr_get hx hb hT mx_in hown hK hC 2 (by decide) (hT _ mw_372) rfl rfl dX1_about_148 ?_
            refine lv_iload_n hx hb dX1_about_151 rfl (lv_at hl 3 rfl) ?_
            refine mr_ldP hx hb hK hC (by omega) dX1_about_152 ?_
            rw [hP9]
            refine wn_ge (tgt := 190) hx hb (by omega) (by omega) dX1_about_153 rfl (fun _ => ?_) (fun h9 => absurd h9 (by omega))
            refine lv_iload_n hx hb dX1_about_190 rfl (lv_at hl 1 rfl) ?_
            have e8 : i = ms_P S jj := by omega
            subst hT9
            exact mr_iret hx hb hr hlk hC (Or.inr ⟨jj, hrow, Or.inr (Or.inr (Or.inr (Or.inr (Or.inl (⟨rfl, by rw [hc, e8], rfl⟩)))))⟩) dX1_about_191
          | succ n ih =>
            intro i x ls H locs hm hc hl hC
            refine lv_iload hx hb dX1_about_145 (lv_at hl 0 rfl) ?_
            refine lv_aload_n hx hb dX1_about_147 rfl (lv_at hl 2 rfl) ?_
            refine mr_get hx hb hT mx_in hown hK hC 2 (by decide) (hT _ mw_372) rfl rfl dX1_about_148 ?_
            refine lv_iload_n hx hb dX1_about_151 rfl (lv_at hl 3 rfl) ?_
            refine mr_ldP hx hb hK hC (by omega) dX1_about_152 ?_
            rw [hP9]
            refine wn_ge (tgt := 190) hx hb (by omega) (by omega) dX1_about_153 rfl (fun h9 => absurd h9 (by omega)) (fun _ => ?_)
            refine lv_iconst (v := (nI 0)) hx hb dX1_about_156 (by decide +kernel) ?_
            refine lv_istore (lv' := [(5, .int (nI 0)), (4, .int (nI i)), (3, .int x), (0, .ref (mg_h G)), (1, .int (nI jj)), (2, .int (nI 4))]) hx hb dX1_about_157 hl (by decide) rfl (fun ls hl => ?_)
            have loop2 : ∀ (n2 : Nat) (j : Nat) (x2 : Int32) (ls : Array Slot) (H : Heap) (locs : List Loc), j + n2 = 8 → x2 = su_r (fun p => ms_c T (ms_F T (32 * jj + p))) i + su_c (ms_c T (ms_F T (32 * jj + i))) j → lv_has ls 6 [(5, .int (nI j)), (4, .int (nI i)), (3, .int x2), (0, .ref (mg_h G)), (1, .int (nI jj)), (2, .int (nI 4))] → mc_at G (mg_A G) s.heap T H locs → W p l e (headSpec wX1_about ({ frames := 2, cells := 0, slots := 0, locals := 64 })).room s m [.ref (mg_h G), .int (nI jj), .int (nI 4)].toArray below meth c H locs 0 0 (MQ below (va_Qi (fun (v : Int32) (S' : ms_T) => ((∀ j, ¬ mo_row S (nI jj) j) ∧ v = nI 0 ∧ S' = ms_st S 1) ∨ ∃ j, mo_row S (nI jj) j ∧ (((nI 4) = nI 0 ∧ v = nI (ms_P S j) ∧ S' = ms_st S 0) ∨ ((nI 4) = nI 1 ∧ v = nI (mo_n (ms_st S 0) j 0) ∧ S' = ms_st S 0) ∨ ((nI 4) = nI 2 ∧ v = nI (ct_b (fun f => decide (0 < mo_n (ms_st S 0) j (f + 1))) 200) ∧ S' = ms_st S 0) ∨ ((nI 4) = nI 3 ∧ v = nI (ct_b (fun f => decide (0 < mo_n (ms_st S 0) j (f + 1)) && decide (mo_n (ms_st S 0) j (f + 1) = cn_f (mv_F (ms_st S 0)) (f + 1))) 200) ∧ S' = ms_st S 0) ∨ ((nI 4) = nI 4 ∧ v = su_r (fun p => ms_c (ms_st S 0) (ms_F (ms_st S 0) (32 * j + p))) (ms_P S j) ∧ S' = ms_st S 0) ∨ (((nI 4).toInt < 0 ∨ 5 ≤ (nI 4).toInt) ∧ v = nI 0 ∧ S' = ms_st S 2))) (mc_q G) (mg_A G)) [.ref (mg_h G), .int (nI jj), .int (nI 4)].toArray s 0 0 (mg_A G)) (F0 m 159 ls []) := by
              intro n2
              induction n2 with
              | zero =>
                intro j x2 ls H locs hm2 hd hl hC
                refine lv_iload hx hb dX1_about_159 (lv_at hl 0 rfl) ?_
                refine lv_bipush (v := (nI 8)) hx hb dX1_about_161 (by decide +kernel) ?_
                refine wn_ge (tgt := 184) hx hb (by omega) (by omega) dX1_about_163 rfl (fun _ => ?_) (fun h9 => absurd h9 (by omega))
                refine lv_iinc (lv' := [(4, .int (nI (i + 1))), (5, .int (nI j)), (3, .int x2), (0, .ref (mg_h G)), (1, .int (nI jj)), (2, .int (nI 4))]) (v := (nI (i + 1))) (k := 1) hx hb dX1_about_184 hl rfl (nI_1 _) (by decide) rfl (fun ls hl => ?_)
                refine lv_goto (tgt := 145) hx hb dX1_about_187 rfl ?_
                have e : j = 8 := by omega
                have hl := lv_sub (l' := [(4, .int (nI (i + 1))), (3, .int x2), (0, .ref (mg_h G)), (1, .int (nI jj)), (2, .int (nI 4))]) hl [0, 2, 3, 4, 5] rfl
                exact ih (i + 1) x2 ls H locs (by omega) (by rw [hd, e]; rfl) hl hC
              | succ n2 ih2 =>
                intro j x2 ls H locs hm2 hd hl hC
                refine lv_iload hx hb dX1_about_159 (lv_at hl 0 rfl) ?_
                refine lv_bipush (v := (nI 8)) hx hb dX1_about_161 (by decide +kernel) ?_
                refine wn_ge (tgt := 184) hx hb (by omega) (by omega) dX1_about_163 rfl (fun h9 => absurd h9 (by omega)) (fun _ => ?_)
                refine lv_iload_n hx hb dX1_about_166 rfl (lv_at hl 2 rfl) ?_
                refine lv_aload_n hx hb dX1_about_167 rfl (lv_at hl 3 rfl) ?_
                refine lv_iload_n hx hb dX1_about_168 rfl (lv_at hl 4 rfl) ?_
                refine lv_iload hx hb dX1_about_169 (lv_at hl 1 rfl) ?_
                refine lv_iload hx hb dX1_about_171 (lv_at hl 0 rfl) ?_
                refine mr_ci (As := [.int (nI jj), .int (nI i), .int (nI j)]) (rest := [.int x2]) ⟨hx, hb, hml, hown, hts⟩ (k1_cellOf l G T jj i j hj4 (by omega) (by omega) hO9) (cwV 3 hts gX1_63 rfl rfl rfl hX1_cellOf ⟨Nat.le_of_ble_eq_true rfl, Nat.le_of_ble_eq_true rfl⟩) hK hC rfl hl.1 rfl (Nat.le_of_ble_eq_true rfl) dX1_about_173 ⟨Nat.zero_le _, Nat.zero_le _⟩ (fun v S1 H locs hp hC => ?_)
                obtain ⟨rfl, hS1⟩ := hp
                rw [hS1] at hC
                refine lv_iadd hx hb dX1_about_176 ?_
                refine lv_istore_n (lv' := [(3, .int (x2 + (ms_c T (ms_F T (32 * jj + i)) j))), (5, .int (nI j)), (4, .int (nI i)), (0, .ref (mg_h G)), (1, .int (nI jj)), (2, .int (nI 4))]) hx hb dX1_about_177 rfl hl (by decide) rfl (fun ls hl => ?_)
                refine lv_iinc (lv' := [(5, .int (nI (j + 1))), (3, .int (x2 + (ms_c T (ms_F T (32 * jj + i)) j))), (4, .int (nI i)), (0, .ref (mg_h G)), (1, .int (nI jj)), (2, .int (nI 4))]) (v := (nI (j + 1))) (k := 1) hx hb dX1_about_178 hl rfl (nI_1 _) (by decide) rfl (fun ls hl => ?_)
                refine lv_goto (tgt := 159) hx hb dX1_about_181 rfl ?_
                have hl := lv_sub (l' := [(5, .int (nI (j + 1))), (4, .int (nI i)), (3, .int (x2 + (ms_c T (ms_F T (32 * jj + i)) j))), (0, .ref (mg_h G)), (1, .int (nI jj)), (2, .int (nI 4))]) hl [0, 2, 1, 3, 4, 5] rfl
                exact ih2 (j + 1) (x2 + ms_c T (ms_F T (32 * jj + i)) j) ls H locs (by omega) (by rw [hd, Int32.add_assoc]; rfl) hl hC
            exact loop2 8 0 x ls H locs rfl (by rw [hc]; exact (Int32.add_zero _).symm) hl hC
        exact loop (ms_P S jj) 0 (nI 0) ls H locs (by omega) nI_0 hl hC
    · refine lv_tableOut (tgt := 192) hx hb dX1_about_13 (by omega) rfl ?_
      refine lv_aload_n hx hb dX1_about_192 rfl (lv_at hl 1 rfl) ?_
      refine lv_iconst (v := (nI 2)) hx hb dX1_about_193 (by decide +kernel) ?_
      subst hT9
      refine mr_ci (As := [.int (nI 2)]) (rest := []) ⟨hx, hb, hml, hown, hts⟩ (k1_fail l G (ms_st S 0) 2) (cwV 1 hts gX1_50 rfl rfl rfl hX1_fail ⟨Nat.le_of_ble_eq_true rfl, Nat.le_of_ble_eq_true rfl⟩) hK hC rfl hl.1 rfl (Nat.le_of_ble_eq_true rfl) dX1_about_194 ⟨Nat.zero_le _, Nat.zero_le _⟩ (fun v S1 H locs hp hC => ?_)
      obtain ⟨rfl, hS1⟩ := hp
      rw [hS1] at hC
      have hC : mc_at G (mg_A G) s.heap (ms_st S 2) H locs := hC
      exact mr_iret hx hb hr hlk hC (Or.inr ⟨jj, hrow, Or.inr (Or.inr (Or.inr (Or.inr (Or.inr (⟨ho, rfl, rfl⟩)))))⟩) dX1_about_197
set_option maxHeartbeats 4000000 in
set_option maxRecDepth 100000 in
/-- count(x) -/
theorem k1_count (l : Launch) (G : mg_T) (S : ms_T) (x : Int32) (hO : mv_ok S) : Met l yX1_count wX1_count ({ frames := 3, cells := 0, slots := 0, locals := 96 }) (va_Pc [.ref (mg_h G), .int x] (mc_p G S)) (va_Qi (fun (v : Int32) (S' : ms_T) => (x = nI 0 ∧ v = nI (ct_b (fun r => decide (ms_B (ms_st S 0) r ≠ 0)) 40) ∧ S' = ms_st S 0) ∨ (x = nI 1 ∧ v = nI (ct_s (fun r => if ms_B (ms_st S 0) r = 0 then 0 else ms_P (ms_st S 0) r) 40) ∧ S' = ms_st S 0) ∨ (x = nI 2 ∧ v = nI (nz_f (cn_f (mv_F (ms_st S 0)))) ∧ S' = ms_st S 0) ∨ (x = nI 3 ∧ v = nI (ct_b (fun f => decide (1 < ct_b (fun r => decide (ms_B (ms_st S 0) r ≠ 0) && decide (0 < mo_n (ms_st S 0) r (f + 1))) 40)) 200) ∧ S' = ms_st S 0) ∨ ((x.toInt < 0 ∨ 4 ≤ x.toInt) ∧ v = -1 ∧ S' = ms_st S 0)) (mc_q G) (mg_A G)) 0 0 (mg_A G) := by
  refine Met.ofW (cc := cX1_count) (maxL := 6) (ret := (some .int)) (by decide) rfl ?_
  intro p e s m args below meth c s₁ B hml hv
  obtain ⟨rfl, hv⟩ := hv
  have hx := B.exec
  have hb := B.bytes
  have hr := B.returns
  have hlk := B.notSynchronized
  have hts := atoms_spec (ws := wX1_count) B.pre
  have hT : ∀ w ∈ nw_T, w.before _ s = true := fun w h => hts w (List.mem_cons_of_mem _ h)
  have hown : s.vm.findClass RX1 = some m.cls := findClass_of_methodNamed B.named
  have hK : mc_K G s := hv.2.2
  have hC := mc_start hv
  have hl := lv_entry ([.ref (mg_h G), .int x]) (n := 6) (Nat.le_of_ble_eq_true rfl)
  rw [lg_entry_eq]
  generalize (lg_sl ([.ref (mg_h G), .int x]) ++ List.replicate (6 - (lg_sl ([.ref (mg_h G), .int x])).length) Slot.unset).toArray = ls at hl ⊢
  have hl : lv_has ls 6 [(0, .ref (mg_h G)), (1, .int x)] := hl
  refine lv_aload_n hx hb dX1_count_0 rfl (lv_at hl 0 rfl) ?_
  refine lv_iconst (v := (nI 0)) hx hb dX1_count_1 (by decide +kernel) ?_
  refine mr_put (x := 0) hx hb hT mx_in hown hK hC (hT _ mw_370) dX1_count_2 (fun H locs hC => ?_)
  obtain ⟨T, hT9⟩ : ∃ z, z = ms_st S 0 := ⟨_, rfl⟩
  rw [← hT9] at hC
  have hO9 : mv_ok T := by rw [hT9]; exact hO
  refine lv_iconst (v := (nI 0)) hx hb dX1_count_5 (by decide +kernel) ?_
  refine lv_istore_n (lv' := [(2, .int (nI 0)), (0, .ref (mg_h G)), (1, .int x)]) hx hb dX1_count_6 rfl hl (by decide) rfl (fun ls hl => ?_)
  refine lv_iload_n hx hb dX1_count_7 rfl (lv_at hl 2 rfl) ?_
  rcases sw_n x (n := 4) (by omega) with ⟨i9, hi9, rfl⟩ | ho
  · obtain rfl | rfl | rfl | rfl : i9 = 0 ∨ i9 = 1 ∨ i9 = 2 ∨ i9 = 3 := by omega
    · refine lv_tableIn (off := 32) (tgt := 40) hx hb dX1_count_8 (by decide +kernel) (by decide +kernel) (by decide +kernel) rfl ?_
      refine lv_iconst (v := (nI 0)) hx hb dX1_count_40 (by decide +kernel) ?_
      refine lv_istore_n (lv' := [(3, .int (nI 0)), (2, .int (nI 0)), (0, .ref (mg_h G)), (1, .int (nI 0))]) hx hb dX1_count_41 rfl hl (by decide) rfl (fun ls hl => ?_)
      have loop : ∀ (n : Nat) (i : Nat) (d : Nat) (ls : Array Slot) (H : Heap) (locs : List Loc), i + n = 40 → d = ct_b (fun r => decide (ms_B T r ≠ 0)) i → lv_has ls 6 [(3, .int (nI i)), (2, .int (nI d)), (0, .ref (mg_h G)), (1, .int (nI 0))] → mc_at G (mg_A G) s.heap T H locs → W p l e (headSpec wX1_count ({ frames := 3, cells := 0, slots := 0, locals := 96 })).room s m [.ref (mg_h G), .int (nI 0)].toArray below meth c H locs 0 0 (MQ below (va_Qi (fun (v : Int32) (S' : ms_T) => ((nI 0) = nI 0 ∧ v = nI (ct_b (fun r => decide (ms_B (ms_st S 0) r ≠ 0)) 40) ∧ S' = ms_st S 0) ∨ ((nI 0) = nI 1 ∧ v = nI (ct_s (fun r => if ms_B (ms_st S 0) r = 0 then 0 else ms_P (ms_st S 0) r) 40) ∧ S' = ms_st S 0) ∨ ((nI 0) = nI 2 ∧ v = nI (nz_f (cn_f (mv_F (ms_st S 0)))) ∧ S' = ms_st S 0) ∨ ((nI 0) = nI 3 ∧ v = nI (ct_b (fun f => decide (1 < ct_b (fun r => decide (ms_B (ms_st S 0) r ≠ 0) && decide (0 < mo_n (ms_st S 0) r (f + 1))) 40)) 200) ∧ S' = ms_st S 0) ∨ (((nI 0).toInt < 0 ∨ 4 ≤ (nI 0).toInt) ∧ v = -1 ∧ S' = ms_st S 0)) (mc_q G) (mg_A G)) [.ref (mg_h G), .int (nI 0)].toArray s 0 0 (mg_A G)) (F0 m 42 ls []) := by
        intro n
        induction n with
        | zero =>
          intro i d ls H locs hm hc hl hC
          refine lv_iload_n hx hb dX1_count_42 rfl (lv_at hl 0 rfl) ?_
          refine lv_bipush (v := (nI 40)) hx hb dX1_count_43 (by decide +kernel) ?_
          refine wn_ge (tgt := 66) hx hb (by omega) (by omega) dX1_count_45 rfl (fun _ => ?_) (fun h9 => absurd h9 (by omega))
          obtain rfl : i = 40 := by omega
          refine lv_iload_n hx hb dX1_count_66 rfl (lv_at hl 1 rfl) ?_
          subst hT9
          exact mr_iret hx hb hr hlk hC (Or.inl (⟨rfl, by rw [hc], rfl⟩)) dX1_count_67
        | succ n ih =>
          intro i d ls H locs hm hc hl hC
          refine lv_iload_n hx hb dX1_count_42 rfl (lv_at hl 0 rfl) ?_
          refine lv_bipush (v := (nI 40)) hx hb dX1_count_43 (by decide +kernel) ?_
          refine wn_ge (tgt := 66) hx hb (by omega) (by omega) dX1_count_45 rfl (fun h9 => absurd h9 (by omega)) (fun _ => ?_)
          have hB1 := hO9.1 i (by omega)
          refine lv_aload_n hx hb dX1_count_48 rfl (lv_at hl 2 rfl) ?_
          refine mr_get hx hb hT mx_in hown hK hC 1 (by decide) (hT _ mw_371) rfl rfl dX1_count_49 ?_
          refine lv_iload_n hx hb dX1_count_52 rfl (lv_at hl 0 rfl) ?_
          refine mr_ldB hx hb hK hC (by omega) dX1_count_53 ?_
          refine wn_if0 (tgt := 60) hx hb (by omega) dX1_count_54 rfl (fun h3 => ?_) (fun h3 => ?_)
          · refine lv_iinc (lv' := [(3, .int (nI (i + 1))), (2, .int (nI d)), (0, .ref (mg_h G)), (1, .int (nI 0))]) (v := (nI (i + 1))) (k := 0) hx hb dX1_count_60 hl rfl (nI_1 _) (by decide) rfl (fun ls hl => ?_)
            refine lv_goto (tgt := 42) hx hb dX1_count_63 rfl ?_
            exact ih (i + 1) d ls H locs (by omega) (by rw [hc]; exact (ct_b_f (q := (fun r => decide (ms_B T r ≠ 0))) (decide_eq_false (fun w => w h3))).symm) hl hC
          · refine lv_iinc (lv' := [(2, .int (nI (d + 1))), (3, .int (nI i)), (0, .ref (mg_h G)), (1, .int (nI 0))]) (v := (nI (d + 1))) (k := 1) hx hb dX1_count_57 hl rfl (nI_1 _) (by decide) rfl (fun ls hl => ?_)
            refine lv_iinc (lv' := [(3, .int (nI (i + 1))), (2, .int (nI (d + 1))), (0, .ref (mg_h G)), (1, .int (nI 0))]) (v := (nI (i + 1))) (k := 1) hx hb dX1_count_60 hl rfl (nI_1 _) (by decide) rfl (fun ls hl => ?_)
            refine lv_goto (tgt := 42) hx hb dX1_count_63 rfl ?_
            exact ih (i + 1) (d + 1) ls H locs (by omega) (by rw [hc]; exact (ct_b_t (q := (fun r => decide (ms_B T r ≠ 0))) (decide_eq_true (by omega))).symm) hl hC
      exact loop 40 0 0 ls H locs rfl rfl hl hC
    · refine lv_tableIn (off := 60) (tgt := 68) hx hb dX1_count_8 (by decide +kernel) (by decide +kernel) (by decide +kernel) rfl ?_
      refine lv_iconst (v := (nI 0)) hx hb dX1_count_68 (by decide +kernel) ?_
      refine lv_istore_n (lv' := [(3, .int (nI 0)), (2, .int (nI 0)), (0, .ref (mg_h G)), (1, .int (nI 1))]) hx hb dX1_count_69 rfl hl (by decide) rfl (fun ls hl => ?_)
      have loop : ∀ (n : Nat) (i : Nat) (d : Nat) (ls : Array Slot) (H : Heap) (locs : List Loc), i + n = 40 → d = ct_s (fun r => if ms_B T r = 0 then 0 else ms_P T r) i → lv_has ls 6 [(3, .int (nI i)), (2, .int (nI d)), (0, .ref (mg_h G)), (1, .int (nI 1))] → mc_at G (mg_A G) s.heap T H locs → W p l e (headSpec wX1_count ({ frames := 3, cells := 0, slots := 0, locals := 96 })).room s m [.ref (mg_h G), .int (nI 1)].toArray below meth c H locs 0 0 (MQ below (va_Qi (fun (v : Int32) (S' : ms_T) => ((nI 1) = nI 0 ∧ v = nI (ct_b (fun r => decide (ms_B (ms_st S 0) r ≠ 0)) 40) ∧ S' = ms_st S 0) ∨ ((nI 1) = nI 1 ∧ v = nI (ct_s (fun r => if ms_B (ms_st S 0) r = 0 then 0 else ms_P (ms_st S 0) r) 40) ∧ S' = ms_st S 0) ∨ ((nI 1) = nI 2 ∧ v = nI (nz_f (cn_f (mv_F (ms_st S 0)))) ∧ S' = ms_st S 0) ∨ ((nI 1) = nI 3 ∧ v = nI (ct_b (fun f => decide (1 < ct_b (fun r => decide (ms_B (ms_st S 0) r ≠ 0) && decide (0 < mo_n (ms_st S 0) r (f + 1))) 40)) 200) ∧ S' = ms_st S 0) ∨ (((nI 1).toInt < 0 ∨ 4 ≤ (nI 1).toInt) ∧ v = -1 ∧ S' = ms_st S 0)) (mc_q G) (mg_A G)) [.ref (mg_h G), .int (nI 1)].toArray s 0 0 (mg_A G)) (F0 m 70 ls []) := by
        intro n
        induction n with
        | zero =>
          intro i d ls H locs hm hc hl hC
          refine lv_iload_n hx hb dX1_count_70 rfl (lv_at hl 0 rfl) ?_
          refine lv_bipush (v := (nI 40)) hx hb dX1_count_71 (by decide +kernel) ?_
          refine wn_ge (tgt := 100) hx hb (by omega) (by omega) dX1_count_73 rfl (fun _ => ?_) (fun h9 => absurd h9 (by omega))
          obtain rfl : i = 40 := by omega
          refine lv_iload_n hx hb dX1_count_100 rfl (lv_at hl 1 rfl) ?_
          subst hT9
          exact mr_iret hx hb hr hlk hC (Or.inr (Or.inl (⟨rfl, by rw [hc], rfl⟩))) dX1_count_101
        | succ n ih =>
          intro i d ls H locs hm hc hl hC
          refine lv_iload_n hx hb dX1_count_70 rfl (lv_at hl 0 rfl) ?_
          refine lv_bipush (v := (nI 40)) hx hb dX1_count_71 (by decide +kernel) ?_
          refine wn_ge (tgt := 100) hx hb (by omega) (by omega) dX1_count_73 rfl (fun h9 => absurd h9 (by omega)) (fun _ => ?_)
          have hB1 := hO9.1 i (by omega)
          refine lv_aload_n hx hb dX1_count_76 rfl (lv_at hl 2 rfl) ?_
          refine mr_get hx hb hT mx_in hown hK hC 1 (by decide) (hT _ mw_371) rfl rfl dX1_count_77 ?_
          refine lv_iload_n hx hb dX1_count_80 rfl (lv_at hl 0 rfl) ?_
          refine mr_ldB hx hb hK hC (by omega) dX1_count_81 ?_
          refine wn_if0 (tgt := 94) hx hb (by omega) dX1_count_82 rfl (fun h3 => ?_) (fun h3 => ?_)
          · refine lv_iinc (lv' := [(3, .int (nI (i + 1))), (2, .int (nI d)), (0, .ref (mg_h G)), (1, .int (nI 1))]) (v := (nI (i + 1))) (k := 0) hx hb dX1_count_94 hl rfl (nI_1 _) (by decide) rfl (fun ls hl => ?_)
            refine lv_goto (tgt := 70) hx hb dX1_count_97 rfl ?_
            exact ih (i + 1) d ls H locs (by omega) (by rw [hc]; show _ = ct_s _ i + (if ms_B T i = 0 then 0 else ms_P T i); rw [if_pos h3]; rfl) hl hC
          · refine lv_iload_n hx hb dX1_count_85 rfl (lv_at hl 1 rfl) ?_
            refine lv_aload_n hx hb dX1_count_86 rfl (lv_at hl 2 rfl) ?_
            refine mr_get hx hb hT mx_in hown hK hC 2 (by decide) (hT _ mw_372) rfl rfl dX1_count_87 ?_
            refine lv_iload_n hx hb dX1_count_90 rfl (lv_at hl 0 rfl) ?_
            refine mr_ldP hx hb hK hC (by omega) dX1_count_91 ?_
            refine wn_add hx hb dX1_count_92 ?_
            refine lv_istore_n (lv' := [(2, .int (nI (d + (ms_P T i)))), (3, .int (nI i)), (0, .ref (mg_h G)), (1, .int (nI 1))]) hx hb dX1_count_93 rfl hl (by decide) rfl (fun ls hl => ?_)
            refine lv_iinc (lv' := [(3, .int (nI (i + 1))), (2, .int (nI (d + (ms_P T i)))), (0, .ref (mg_h G)), (1, .int (nI 1))]) (v := (nI (i + 1))) (k := 1) hx hb dX1_count_94 hl rfl (nI_1 _) (by decide) rfl (fun ls hl => ?_)
            refine lv_goto (tgt := 70) hx hb dX1_count_97 rfl ?_
            exact ih (i + 1) (d + ms_P T i) ls H locs (by omega) (by rw [hc]; show _ = ct_s _ i + (if ms_B T i = 0 then 0 else ms_P T i); rw [if_neg (by omega)]) hl hC
      exact loop 40 0 0 ls H locs rfl rfl hl hC
    · refine lv_tableIn (off := 94) (tgt := 102) hx hb dX1_count_8 (by decide +kernel) (by decide +kernel) (by decide +kernel) rfl ?_
      refine lv_aload_n hx hb dX1_count_102 rfl (lv_at hl 1 rfl) ?_
      refine mr_ci (As := []) (rest := []) ⟨hx, hb, hml, hown, hts⟩ (k1_frames l G T hO9) (cwV 0 hts gX1_53 rfl rfl rfl hX1_frames ⟨Nat.le_of_ble_eq_true rfl, Nat.le_of_ble_eq_true rfl⟩) hK hC rfl hl.1 rfl (Nat.le_of_ble_eq_true rfl) dX1_count_103 ⟨Nat.zero_le _, Nat.zero_le _⟩ (fun v S1 H locs hp hC => ?_)
      obtain ⟨rfl, hS1⟩ := hp
      rw [hS1] at hC
      subst hT9
      exact mr_iret hx hb hr hlk hC (Or.inr (Or.inr (Or.inl (⟨rfl, rfl, rfl⟩)))) dX1_count_106
    · refine lv_tableIn (off := 99) (tgt := 107) hx hb dX1_count_8 (by decide +kernel) (by decide +kernel) (by decide +kernel) rfl ?_
      refine lv_iconst (v := (nI 0)) hx hb dX1_count_107 (by decide +kernel) ?_
      refine lv_istore_n (lv' := [(3, .int (nI 0)), (2, .int (nI 0)), (0, .ref (mg_h G)), (1, .int (nI 3))]) hx hb dX1_count_108 rfl hl (by decide) rfl (fun ls hl => ?_)
      have loop : ∀ (n : Nat) (f : Nat) (d : Nat) (ls : Array Slot) (H : Heap) (locs : List Loc), f + n = 200 → d = ct_b (fun f => decide (1 < ct_b (fun r => decide (ms_B T r ≠ 0) && decide (0 < mo_n T r (f + 1))) 40)) f → lv_has ls 6 [(3, .int (nI f)), (2, .int (nI d)), (0, .ref (mg_h G)), (1, .int (nI 3))] → mc_at G (mg_A G) s.heap T H locs → W p l e (headSpec wX1_count ({ frames := 3, cells := 0, slots := 0, locals := 96 })).room s m [.ref (mg_h G), .int (nI 3)].toArray below meth c H locs 0 0 (MQ below (va_Qi (fun (v : Int32) (S' : ms_T) => ((nI 3) = nI 0 ∧ v = nI (ct_b (fun r => decide (ms_B (ms_st S 0) r ≠ 0)) 40) ∧ S' = ms_st S 0) ∨ ((nI 3) = nI 1 ∧ v = nI (ct_s (fun r => if ms_B (ms_st S 0) r = 0 then 0 else ms_P (ms_st S 0) r) 40) ∧ S' = ms_st S 0) ∨ ((nI 3) = nI 2 ∧ v = nI (nz_f (cn_f (mv_F (ms_st S 0)))) ∧ S' = ms_st S 0) ∨ ((nI 3) = nI 3 ∧ v = nI (ct_b (fun f => decide (1 < ct_b (fun r => decide (ms_B (ms_st S 0) r ≠ 0) && decide (0 < mo_n (ms_st S 0) r (f + 1))) 40)) 200) ∧ S' = ms_st S 0) ∨ (((nI 3).toInt < 0 ∨ 4 ≤ (nI 3).toInt) ∧ v = -1 ∧ S' = ms_st S 0)) (mc_q G) (mg_A G)) [.ref (mg_h G), .int (nI 3)].toArray s 0 0 (mg_A G)) (F0 m 109 ls []) := by
        intro n
        induction n with
        | zero =>
          intro f d ls H locs hm hc hl hC
          refine lv_iload_n hx hb dX1_count_109 rfl (lv_at hl 0 rfl) ?_
          refine lv_sipush (v := (nI 200)) hx hb dX1_count_110 (by decide +kernel) ?_
          refine wn_ge (tgt := 173) hx hb (by omega) (by omega) dX1_count_113 rfl (fun _ => ?_) (fun h9 => absurd h9 (by omega))
          obtain rfl : f = 200 := by omega
          refine lv_iload_n hx hb dX1_count_173 rfl (lv_at hl 1 rfl) ?_
          subst hT9
          exact mr_iret hx hb hr hlk hC (Or.inr (Or.inr (Or.inr (Or.inl (⟨rfl, by rw [hc], rfl⟩))))) dX1_count_174
        | succ n ih =>
          intro f d ls H locs hm hc hl hC
          refine lv_iload_n hx hb dX1_count_109 rfl (lv_at hl 0 rfl) ?_
          refine lv_sipush (v := (nI 200)) hx hb dX1_count_110 (by decide +kernel) ?_
          refine wn_ge (tgt := 173) hx hb (by omega) (by omega) dX1_count_113 rfl (fun h9 => absurd h9 (by omega)) (fun _ => ?_)
          refine lv_iconst (v := (nI 0)) hx hb dX1_count_116 (by decide +kernel) ?_
          refine lv_istore (lv' := [(4, .int (nI 0)), (3, .int (nI f)), (2, .int (nI d)), (0, .ref (mg_h G)), (1, .int (nI 3))]) hx hb dX1_count_117 hl (by decide) rfl (fun ls hl => ?_)
          refine lv_iconst (v := (nI 0)) hx hb dX1_count_119 (by decide +kernel) ?_
          refine lv_istore (lv' := [(5, .int (nI 0)), (4, .int (nI 0)), (3, .int (nI f)), (2, .int (nI d)), (0, .ref (mg_h G)), (1, .int (nI 3))]) hx hb dX1_count_120 hl (by decide) rfl (fun ls hl => ?_)
          have loop2 : ∀ (n2 : Nat) (i : Nat) (e9 : Nat) (ls : Array Slot) (H : Heap) (locs : List Loc), i + n2 = 40 → e9 = ct_b (fun r => decide (ms_B T r ≠ 0) && decide (0 < mo_n T r (f + 1))) i → lv_has ls 6 [(5, .int (nI i)), (4, .int (nI e9)), (3, .int (nI f)), (2, .int (nI d)), (0, .ref (mg_h G)), (1, .int (nI 3))] → mc_at G (mg_A G) s.heap T H locs → W p l e (headSpec wX1_count ({ frames := 3, cells := 0, slots := 0, locals := 96 })).room s m [.ref (mg_h G), .int (nI 3)].toArray below meth c H locs 0 0 (MQ below (va_Qi (fun (v : Int32) (S' : ms_T) => ((nI 3) = nI 0 ∧ v = nI (ct_b (fun r => decide (ms_B (ms_st S 0) r ≠ 0)) 40) ∧ S' = ms_st S 0) ∨ ((nI 3) = nI 1 ∧ v = nI (ct_s (fun r => if ms_B (ms_st S 0) r = 0 then 0 else ms_P (ms_st S 0) r) 40) ∧ S' = ms_st S 0) ∨ ((nI 3) = nI 2 ∧ v = nI (nz_f (cn_f (mv_F (ms_st S 0)))) ∧ S' = ms_st S 0) ∨ ((nI 3) = nI 3 ∧ v = nI (ct_b (fun f => decide (1 < ct_b (fun r => decide (ms_B (ms_st S 0) r ≠ 0) && decide (0 < mo_n (ms_st S 0) r (f + 1))) 40)) 200) ∧ S' = ms_st S 0) ∨ (((nI 3).toInt < 0 ∨ 4 ≤ (nI 3).toInt) ∧ v = -1 ∧ S' = ms_st S 0)) (mc_q G) (mg_A G)) [.ref (mg_h G), .int (nI 3)].toArray s 0 0 (mg_A G)) (F0 m 122 ls []) := by
            intro n2
            induction n2 with
            | zero =>
              intro i e9 ls H locs hm2 hd hl hC
              refine lv_iload hx hb dX1_count_122 (lv_at hl 0 rfl) ?_
              refine lv_bipush (v := (nI 40)) hx hb dX1_count_124 (by decide +kernel) ?_
              refine wn_ge (tgt := 158) hx hb (by omega) (by omega) dX1_count_126 rfl (fun _ => ?_) (fun h9 => absurd h9 (by omega))
              obtain rfl : i = 40 := by omega
              have hle := ct_b_le (fun r => decide (ms_B T r ≠ 0) && decide (0 < mo_n T r (f + 1))) 40
              refine lv_iload hx hb dX1_count_158 (lv_at hl 1 rfl) ?_
              refine lv_iconst (v := (nI 1)) hx hb dX1_count_160 (by decide +kernel) ?_
              refine wn_le (tgt := 167) hx hb (by omega) (by omega) dX1_count_161 rfl (fun h3 => ?_) (fun h3 => ?_)
              · refine lv_iinc (lv' := [(3, .int (nI (f + 1))), (5, .int (nI 40)), (4, .int (nI e9)), (2, .int (nI d)), (0, .ref (mg_h G)), (1, .int (nI 3))]) (v := (nI (f + 1))) (k := 2) hx hb dX1_count_167 hl rfl (nI_1 _) (by decide) rfl (fun ls hl => ?_)
                refine lv_goto (tgt := 109) hx hb dX1_count_170 rfl ?_
                have hl := lv_sub (l' := [(3, .int (nI (f + 1))), (2, .int (nI d)), (0, .ref (mg_h G)), (1, .int (nI 3))]) hl [0, 3, 4, 5] rfl
                exact ih (f + 1) d ls H locs (by omega) (by rw [hc]; exact (ct_b_f (q := (fun f => decide (1 < ct_b (fun r => decide (ms_B T r ≠ 0) && decide (0 < mo_n T r (f + 1))) 40))) (decide_eq_false (by omega))).symm) hl hC
              · refine lv_iinc (lv' := [(2, .int (nI (d + 1))), (5, .int (nI 40)), (4, .int (nI e9)), (3, .int (nI f)), (0, .ref (mg_h G)), (1, .int (nI 3))]) (v := (nI (d + 1))) (k := 3) hx hb dX1_count_164 hl rfl (nI_1 _) (by decide) rfl (fun ls hl => ?_)
                refine lv_iinc (lv' := [(3, .int (nI (f + 1))), (2, .int (nI (d + 1))), (5, .int (nI 40)), (4, .int (nI e9)), (0, .ref (mg_h G)), (1, .int (nI 3))]) (v := (nI (f + 1))) (k := 3) hx hb dX1_count_167 hl rfl (nI_1 _) (by decide) rfl (fun ls hl => ?_)
                refine lv_goto (tgt := 109) hx hb dX1_count_170 rfl ?_
                have hl := lv_sub (l' := [(3, .int (nI (f + 1))), (2, .int (nI (d + 1))), (0, .ref (mg_h G)), (1, .int (nI 3))]) hl [0, 1, 4, 5] rfl
                exact ih (f + 1) (d + 1) ls H locs (by omega) (by rw [hc]; exact (ct_b_t (q := (fun f => decide (1 < ct_b (fun r => decide (ms_B T r ≠ 0) && decide (0 < mo_n T r (f + 1))) 40))) (decide_eq_true (by omega))).symm) hl hC
            | succ n2 ih2 =>
              intro i e9 ls H locs hm2 hd hl hC
              refine lv_iload hx hb dX1_count_122 (lv_at hl 0 rfl) ?_
              refine lv_bipush (v := (nI 40)) hx hb dX1_count_124 (by decide +kernel) ?_
              refine wn_ge (tgt := 158) hx hb (by omega) (by omega) dX1_count_126 rfl (fun h9 => absurd h9 (by omega)) (fun _ => ?_)
              have hB1 := hO9.1 i (by omega)
              refine lv_aload_n hx hb dX1_count_129 rfl (lv_at hl 4 rfl) ?_
              refine mr_get hx hb hT mx_in hown hK hC 1 (by decide) (hT _ mw_371) rfl rfl dX1_count_130 ?_
              refine lv_iload hx hb dX1_count_133 (lv_at hl 0 rfl) ?_
              refine mr_ldB hx hb hK hC (by omega) dX1_count_135 ?_
              refine wn_if0 (tgt := 152) hx hb (by omega) dX1_count_136 rfl (fun h3 => ?_) (fun h3 => ?_)
              · refine lv_iinc (lv' := [(5, .int (nI (i + 1))), (4, .int (nI e9)), (3, .int (nI f)), (2, .int (nI d)), (0, .ref (mg_h G)), (1, .int (nI 3))]) (v := (nI (i + 1))) (k := 0) hx hb dX1_count_152 hl rfl (nI_1 _) (by decide) rfl (fun ls hl => ?_)
                refine lv_goto (tgt := 122) hx hb dX1_count_155 rfl ?_
                exact ih2 (i + 1) e9 ls H locs (by omega) (by rw [hd]; exact (ct_b_f (q := (fun r => decide (ms_B T r ≠ 0) && decide (0 < mo_n T r (f + 1)))) (by show (decide (ms_B T i ≠ 0) && _) = false; rw [decide_eq_false (fun w => w h3)]; rfl)).symm) hl hC
              · refine lv_aload_n hx hb dX1_count_139 rfl (lv_at hl 4 rfl) ?_
                refine lv_iload hx hb dX1_count_140 (lv_at hl 0 rfl) ?_
                refine lv_iload_n hx hb dX1_count_142 rfl (lv_at hl 2 rfl) ?_
                rw [← ks_e1 f]
                refine mr_ci (As := [.int (nI i), .int (ks_e (f + 1))]) (rest := []) ⟨hx, hb, hml, hown, hts⟩ (k1_own0 l G T i (f + 1) (by omega) (by omega) hO9) (cwV 2 hts gX1_77 rfl rfl rfl hX1_own0 ⟨Nat.le_of_ble_eq_true rfl, Nat.le_of_ble_eq_true rfl⟩) hK hC rfl hl.1 rfl (Nat.le_of_ble_eq_true rfl) dX1_count_143 ⟨Nat.zero_le _, Nat.zero_le _⟩ (fun v S1 H locs hp hC => ?_)
                obtain ⟨hv1, hS1⟩ := hp
                have hv1 : v = nI (mo_n T i (f + 1)) := hv1
                subst hv1
                rw [hS1] at hC
                have hb8 := mo_nb (g := (f + 1)) hO9 (j := i) (by omega)
                refine wn_ifle (tgt := 152) hx hb (by omega) dX1_count_146 rfl (fun h4 => ?_) (fun h4 => ?_)
                · refine lv_iinc (lv' := [(5, .int (nI (i + 1))), (4, .int (nI e9)), (3, .int (nI f)), (2, .int (nI d)), (0, .ref (mg_h G)), (1, .int (nI 3))]) (v := (nI (i + 1))) (k := 0) hx hb dX1_count_152 hl rfl (nI_1 _) (by decide) rfl (fun ls hl => ?_)
                  refine lv_goto (tgt := 122) hx hb dX1_count_155 rfl ?_
                  exact ih2 (i + 1) e9 ls H locs (by omega) (by rw [hd]; exact (ct_b_f (q := (fun r => decide (ms_B T r ≠ 0) && decide (0 < mo_n T r (f + 1)))) (by show (_ && decide (0 < mo_n T i (f + 1))) = false; rw [decide_eq_false (show ¬ 0 < mo_n T i (f + 1) by omega), Bool.and_false])).symm) hl hC
                · refine lv_iinc (lv' := [(4, .int (nI (e9 + 1))), (5, .int (nI i)), (3, .int (nI f)), (2, .int (nI d)), (0, .ref (mg_h G)), (1, .int (nI 3))]) (v := (nI (e9 + 1))) (k := 1) hx hb dX1_count_149 hl rfl (nI_1 _) (by decide) rfl (fun ls hl => ?_)
                  refine lv_iinc (lv' := [(5, .int (nI (i + 1))), (4, .int (nI (e9 + 1))), (3, .int (nI f)), (2, .int (nI d)), (0, .ref (mg_h G)), (1, .int (nI 3))]) (v := (nI (i + 1))) (k := 1) hx hb dX1_count_152 hl rfl (nI_1 _) (by decide) rfl (fun ls hl => ?_)
                  refine lv_goto (tgt := 122) hx hb dX1_count_155 rfl ?_
                  exact ih2 (i + 1) (e9 + 1) ls H locs (by omega) (by rw [hd]; exact (ct_b_t (q := (fun r => decide (ms_B T r ≠ 0) && decide (0 < mo_n T r (f + 1)))) (by show (decide (ms_B T i ≠ 0) && decide (0 < mo_n T i (f + 1))) = true; rw [decide_eq_true (show ms_B T i ≠ 0 by omega), decide_eq_true (show 0 < mo_n T i (f + 1) by omega)]; rfl)).symm) hl hC
          exact loop2 40 0 0 ls H locs rfl rfl hl hC
      exact loop 200 0 0 ls H locs rfl rfl hl hC
  · refine lv_tableOut (tgt := 175) hx hb dX1_count_8 (by omega) rfl ?_
    refine lv_iconst (v := (-1)) hx hb dX1_count_175 (by decide +kernel) ?_
    subst hT9
    exact mr_iret hx hb hr hlk hC (Or.inr (Or.inr (Or.inr (Or.inr (⟨ho, rfl, rfl⟩))))) dX1_count_176
