/-! the reference's counts (laid by program) -/
def ms_same (S : ms_T) (f g : Nat) : Bool := (List.range 8).all (fun j => decide (ms_C S (8 * f + j) = ms_C S (8 * g + j)))
theorem ms_same_iff {S : ms_T} {f g : Nat} : ms_same S f g = true ↔ ∀ j, j < 8 → ms_C S (8 * f + j) = ms_C S (8 * g + j) := by
  unfold ms_same
  rw [List.all_eq_true]
  exact ⟨fun h j hj => of_decide_eq_true (h j (List.mem_range.mpr hj)), fun h j hj => decide_eq_true (h j (List.mem_range.mp hj))⟩
def ms_c (S : ms_T) (g d : Nat) : Int32 := if g = 0 then 0 else ms_C S (8 * (g - 1) + d)
set_option maxHeartbeats 4000000 in
set_option maxRecDepth 100000 in
/-- holdersOf(f), f = g - 1 -/
theorem k1_holdersOf (l : Launch) (G : mg_T) (S : ms_T) (g : Nat) (hg1 : 1 ≤ g) (hg2 : g ≤ 200) (hO : mv_ok S) : Met l yX1_holdersOf wX1_holdersOf ({ frames := 1, cells := 0, slots := 0, locals := 32 }) (va_Pc [.ref (mg_h G), .int (ks_e g)] (mc_p G S)) (va_Qi (fun (v : Int32) (S' : ms_T) => v = nI (cn_f (mv_F S) g) ∧ S' = S) (mc_q G) (mg_A G)) 0 0 (mg_A G) := by
  refine Met.ofW (cc := cX1_holdersOf) (maxL := 5) (ret := (some .int)) (by decide) rfl ?_
  intro p e s m args below meth c s₁ B hml hv
  obtain ⟨rfl, hv⟩ := hv
  have hx := B.exec
  have hb := B.bytes
  have hr := B.returns
  have hlk := B.notSynchronized
  have hts := atoms_spec (ws := wX1_holdersOf) B.pre
  have hT : ∀ w ∈ nw_T, w.before _ s = true := fun w h => hts w (List.mem_cons_of_mem _ h)
  have hown : s.vm.findClass RX1 = some m.cls := findClass_of_methodNamed B.named
  have hK : mc_K G s := hv.2.2
  have hC := mc_start hv
  have hl := lv_entry ([.ref (mg_h G), .int (ks_e g)]) (n := 5) (Nat.le_of_ble_eq_true rfl)
  rw [lg_entry_eq]
  generalize (lg_sl ([.ref (mg_h G), .int (ks_e g)]) ++ List.replicate (5 - (lg_sl ([.ref (mg_h G), .int (ks_e g)])).length) Slot.unset).toArray = ls at hl ⊢
  have hl : lv_has ls 5 [(0, .ref (mg_h G)), (1, .int (ks_e g))] := hl
  refine lv_iconst (v := (nI 0)) hx hb dX1_holdersOf_0 (by decide +kernel) ?_
  refine lv_istore_n (lv' := [(2, .int (nI 0)), (0, .ref (mg_h G)), (1, .int (ks_e g))]) hx hb dX1_holdersOf_1 rfl hl (by decide) rfl (fun ls hl => ?_)
  refine lv_iconst (v := (nI 0)) hx hb dX1_holdersOf_2 (by decide +kernel) ?_
  refine lv_istore_n (lv' := [(3, .int (nI 0)), (2, .int (nI 0)), (0, .ref (mg_h G)), (1, .int (ks_e g))]) hx hb dX1_holdersOf_3 rfl hl (by decide) rfl (fun ls hl => ?_)
  have loop : ∀ (n : Nat) (r : Nat) (d : Nat) (ls : Array Slot) (H : Heap) (locs : List Loc), r + n = 40 → d = ct_s (fun r => cn_r (mv_F S r) g) r → lv_has ls 5 [(3, .int (nI r)), (2, .int (nI d)), (0, .ref (mg_h G)), (1, .int (ks_e g))] → mc_at G (mg_A G) s.heap S H locs → W p l e (headSpec wX1_holdersOf ({ frames := 1, cells := 0, slots := 0, locals := 32 })).room s m [.ref (mg_h G), .int (ks_e g)].toArray below meth c H locs 0 0 (MQ below (va_Qi (fun (v : Int32) (S' : ms_T) => v = nI (cn_f (mv_F S) g) ∧ S' = S) (mc_q G) (mg_A G)) [.ref (mg_h G), .int (ks_e g)].toArray s 0 0 (mg_A G)) (F0 m 4 ls []) := by
    intro n
    induction n with
    | zero =>
      intro r d ls H locs hm hc hl hC
      refine lv_iload_n hx hb dX1_holdersOf_4 rfl (lv_at hl 0 rfl) ?_
      refine lv_bipush (v := (nI 40)) hx hb dX1_holdersOf_5 (by decide +kernel) ?_
      refine wn_ge (tgt := 59) hx hb (by omega) (by omega) dX1_holdersOf_7 rfl (fun _ => ?_) (fun h9 => absurd h9 (by omega))
      refine lv_iload_n hx hb dX1_holdersOf_59 rfl (lv_at hl 1 rfl) ?_
      obtain rfl : r = 40 := by omega
      exact mr_iret hx hb hr hlk hC (⟨by rw [hc]; rfl, rfl⟩) dX1_holdersOf_60
    | succ n ih =>
      intro r d ls H locs hm hc hl hC
      refine lv_iload_n hx hb dX1_holdersOf_4 rfl (lv_at hl 0 rfl) ?_
      refine lv_bipush (v := (nI 40)) hx hb dX1_holdersOf_5 (by decide +kernel) ?_
      refine wn_ge (tgt := 59) hx hb (by omega) (by omega) dX1_holdersOf_7 rfl (fun h9 => absurd h9 (by omega)) (fun _ => ?_)
      have hB1 := hO.1 r (by omega)
      have hP1 := hO.2.1 r (by omega)
      refine lv_iconst (v := (nI 0)) hx hb dX1_holdersOf_10 (by decide +kernel) ?_
      refine lv_istore (lv' := [(4, .int (nI 0)), (3, .int (nI r)), (2, .int (nI d)), (0, .ref (mg_h G)), (1, .int (ks_e g))]) hx hb dX1_holdersOf_11 hl (by decide) rfl (fun ls hl => ?_)
      by_cases hb0 : ms_B S r = 0
      · skip
        refine lv_aload_n hx hb dX1_holdersOf_13 rfl (lv_at hl 3 rfl) ?_
        refine mr_get hx hb hT mx_in hown hK hC 1 (by decide) (hT _ mw_371) rfl rfl dX1_holdersOf_14 ?_
        refine lv_iload_n hx hb dX1_holdersOf_17 rfl (lv_at hl 1 rfl) ?_
        refine mr_ldB hx hb hK hC (by omega) dX1_holdersOf_18 ?_
        refine wn_if0 (tgt := 53) hx hb (by omega) dX1_holdersOf_19 rfl (fun _ => ?_) (fun h9 => absurd hb0 h9)
        refine lv_iinc (lv' := [(3, .int (nI (r + 1))), (4, .int (nI 0)), (2, .int (nI d)), (0, .ref (mg_h G)), (1, .int (ks_e g))]) (v := (nI (r + 1))) (k := 1) hx hb dX1_holdersOf_53 hl rfl (nI_1 _) (by decide) rfl (fun ls hl => ?_)
        refine lv_goto (tgt := 4) hx hb dX1_holdersOf_56 rfl ?_
        have hl := lv_sub (l' := [(3, .int (nI (r + 1))), (2, .int (nI d)), (0, .ref (mg_h G)), (1, .int (ks_e g))]) hl [0, 2, 3, 4] rfl
        exact ih (r + 1) d ls H locs (by omega) (by rw [hc]; show _ = ct_s (fun r => cn_r (mv_F S r) g) r + cn_r (mv_F S r) g; rw [mv_r0 hb0 (by omega)]; rfl) hl hC
      · skip
        have loop2 : ∀ (n2 : Nat) (i : Nat) (d2 : Nat) (ls : Array Slot) (H : Heap) (locs : List Loc), i + n2 = ms_P S r → d2 = ct_s (fun r => cn_r (mv_F S r) g) r + ct_b (fun p => decide (mv_F S r p = g)) i → lv_has ls 5 [(4, .int (nI i)), (3, .int (nI r)), (2, .int (nI d2)), (0, .ref (mg_h G)), (1, .int (ks_e g))] → mc_at G (mg_A G) s.heap S H locs → W p l e (headSpec wX1_holdersOf ({ frames := 1, cells := 0, slots := 0, locals := 32 })).room s m [.ref (mg_h G), .int (ks_e g)].toArray below meth c H locs 0 0 (MQ below (va_Qi (fun (v : Int32) (S' : ms_T) => v = nI (cn_f (mv_F S) g) ∧ S' = S) (mc_q G) (mg_A G)) [.ref (mg_h G), .int (ks_e g)].toArray s 0 0 (mg_A G)) (F0 m 13 ls []) := by
          intro n2
          induction n2 with
          | zero =>
            intro i d2 ls H locs hm2 hd hl hC
            refine lv_aload_n hx hb dX1_holdersOf_13 rfl (lv_at hl 3 rfl) ?_
            refine mr_get hx hb hT mx_in hown hK hC 1 (by decide) (hT _ mw_371) rfl rfl dX1_holdersOf_14 ?_
            refine lv_iload_n hx hb dX1_holdersOf_17 rfl (lv_at hl 1 rfl) ?_
            refine mr_ldB hx hb hK hC (by omega) dX1_holdersOf_18 ?_
            refine wn_if0 (tgt := 53) hx hb (by omega) dX1_holdersOf_19 rfl (fun h9 => absurd h9 hb0) (fun _ => ?_)
            refine lv_iload hx hb dX1_holdersOf_22 (lv_at hl 0 rfl) ?_
            refine lv_aload_n hx hb dX1_holdersOf_24 rfl (lv_at hl 3 rfl) ?_
            refine mr_get hx hb hT mx_in hown hK hC 2 (by decide) (hT _ mw_372) rfl rfl dX1_holdersOf_25 ?_
            refine lv_iload_n hx hb dX1_holdersOf_28 rfl (lv_at hl 1 rfl) ?_
            refine mr_ldP hx hb hK hC (by omega) dX1_holdersOf_29 ?_
            refine wn_ge (tgt := 53) hx hb (by omega) (by omega) dX1_holdersOf_30 rfl (fun _ => ?_) (fun h9 => absurd h9 (by omega))
            refine lv_iinc (lv' := [(3, .int (nI (r + 1))), (4, .int (nI i)), (2, .int (nI d2)), (0, .ref (mg_h G)), (1, .int (ks_e g))]) (v := (nI (r + 1))) (k := 1) hx hb dX1_holdersOf_53 hl rfl (nI_1 _) (by decide) rfl (fun ls hl => ?_)
            refine lv_goto (tgt := 4) hx hb dX1_holdersOf_56 rfl ?_
            have hl := lv_sub (l' := [(3, .int (nI (r + 1))), (2, .int (nI d2)), (0, .ref (mg_h G)), (1, .int (ks_e g))]) hl [0, 2, 3, 4] rfl
            exact ih (r + 1) d2 ls H locs (by omega) (by rw [hd, show i = ms_P S r by omega, ← mv_r1 hb0 hP1 (by omega)]; rfl) hl hC
          | succ n2 ih2 =>
            intro i d2 ls H locs hm2 hd hl hC
            refine lv_aload_n hx hb dX1_holdersOf_13 rfl (lv_at hl 3 rfl) ?_
            refine mr_get hx hb hT mx_in hown hK hC 1 (by decide) (hT _ mw_371) rfl rfl dX1_holdersOf_14 ?_
            refine lv_iload_n hx hb dX1_holdersOf_17 rfl (lv_at hl 1 rfl) ?_
            refine mr_ldB hx hb hK hC (by omega) dX1_holdersOf_18 ?_
            refine wn_if0 (tgt := 53) hx hb (by omega) dX1_holdersOf_19 rfl (fun h9 => absurd h9 hb0) (fun _ => ?_)
            refine lv_iload hx hb dX1_holdersOf_22 (lv_at hl 0 rfl) ?_
            refine lv_aload_n hx hb dX1_holdersOf_24 rfl (lv_at hl 3 rfl) ?_
            refine mr_get hx hb hT mx_in hown hK hC 2 (by decide) (hT _ mw_372) rfl rfl dX1_holdersOf_25 ?_
            refine lv_iload_n hx hb dX1_holdersOf_28 rfl (lv_at hl 1 rfl) ?_
            refine mr_ldP hx hb hK hC (by omega) dX1_holdersOf_29 ?_
            refine wn_ge (tgt := 53) hx hb (by omega) (by omega) dX1_holdersOf_30 rfl (fun h9 => absurd h9 (by omega)) (fun _ => ?_)
            refine lv_aload_n hx hb dX1_holdersOf_33 rfl (lv_at hl 3 rfl) ?_
            refine lv_iload_n hx hb dX1_holdersOf_34 rfl (lv_at hl 1 rfl) ?_
            refine lv_iload hx hb dX1_holdersOf_35 (lv_at hl 0 rfl) ?_
            refine mr_ci (As := [.int (nI r), .int (nI i)]) (rest := []) ⟨hx, hb, hml, hown, hts⟩ (k1_at l G S r i (by omega) (by omega)) (cwV 2 hts gX1_34 rfl rfl rfl hX1_at ⟨Nat.le_of_ble_eq_true rfl, Nat.le_of_ble_eq_true rfl⟩) hK hC rfl hl.1 rfl (Nat.le_of_ble_eq_true rfl) dX1_holdersOf_37 ⟨Nat.zero_le _, Nat.zero_le _⟩ (fun v S1 H locs hp hC => ?_)
            obtain ⟨rfl, hS1⟩ := hp
            rw [hS1] at hC
            have eF : mv_F S r i = ms_F S (32 * r + i) := mv_F1 hb0 (by omega)
            have hF := hO.2.2 (32 * r + i) (by omega)
            refine lv_iload_n hx hb dX1_holdersOf_40 rfl (lv_at hl 4 rfl) ?_
            refine lv_icmp_ne (tgt := 47) hx hb dX1_holdersOf_41 rfl (fun h3 => ?_) (fun h3 => ?_)
            · refine lv_iinc (lv' := [(4, .int (nI (i + 1))), (3, .int (nI r)), (2, .int (nI d2)), (0, .ref (mg_h G)), (1, .int (ks_e g))]) (v := (nI (i + 1))) (k := 0) hx hb dX1_holdersOf_47 hl rfl (nI_1 _) (by decide) rfl (fun ls hl => ?_)
              refine lv_goto (tgt := 13) hx hb dX1_holdersOf_50 rfl ?_
              exact ih2 (i + 1) d2 ls H locs (by omega) (by rw [hd, ct_b_f (decide_eq_false (fun e => h3 (by rw [← eF, e])))]) hl hC
            · refine lv_iinc (lv' := [(2, .int (nI (d2 + 1))), (4, .int (nI i)), (3, .int (nI r)), (0, .ref (mg_h G)), (1, .int (ks_e g))]) (v := (nI (d2 + 1))) (k := 2) hx hb dX1_holdersOf_44 hl rfl (nI_1 _) (by decide) rfl (fun ls hl => ?_)
              refine lv_iinc (lv' := [(4, .int (nI (i + 1))), (2, .int (nI (d2 + 1))), (3, .int (nI r)), (0, .ref (mg_h G)), (1, .int (ks_e g))]) (v := (nI (i + 1))) (k := 1) hx hb dX1_holdersOf_47 hl rfl (nI_1 _) (by decide) rfl (fun ls hl => ?_)
              refine lv_goto (tgt := 13) hx hb dX1_holdersOf_50 rfl ?_
              have hl := lv_sub (l' := [(4, .int (nI (i + 1))), (3, .int (nI r)), (2, .int (nI (d2 + 1))), (0, .ref (mg_h G)), (1, .int (ks_e g))]) hl [0, 2, 1, 3, 4] rfl
              exact ih2 (i + 1) (d2 + 1) ls H locs (by omega) (by rw [hd, ct_b_t (decide_eq_true (by rw [eF]; exact (ks_e_eq (by omega) (by omega)).mp h3))]; rfl) hl hC
        exact loop2 (ms_P S r) 0 d ls H locs (by omega) (by rw [hc]; rfl) hl hC
  exact loop 40 0 0 ls s.heap [] rfl rfl hl hC
set_option maxHeartbeats 4000000 in
set_option maxRecDepth 100000 in
/-- frames() -/
theorem k1_frames (l : Launch) (G : mg_T) (S : ms_T) (hO : mv_ok S) : Met l yX1_frames wX1_frames ({ frames := 2, cells := 0, slots := 0, locals := 64 }) (va_Pc [.ref (mg_h G)] (mc_p G S)) (va_Qi (fun (v : Int32) (S' : ms_T) => v = nI (nz_f (cn_f (mv_F S))) ∧ S' = S) (mc_q G) (mg_A G)) 0 0 (mg_A G) := by
  refine Met.ofW (cc := cX1_frames) (maxL := 3) (ret := (some .int)) (by decide) rfl ?_
  intro p e s m args below meth c s₁ B hml hv
  obtain ⟨rfl, hv⟩ := hv
  have hx := B.exec
  have hb := B.bytes
  have hr := B.returns
  have hlk := B.notSynchronized
  have hts := atoms_spec (ws := wX1_frames) B.pre
  have hT : ∀ w ∈ nw_T, w.before _ s = true := fun w h => hts w (List.mem_cons_of_mem _ h)
  have hown : s.vm.findClass RX1 = some m.cls := findClass_of_methodNamed B.named
  have hK : mc_K G s := hv.2.2
  have hC := mc_start hv
  have hl := lv_entry ([.ref (mg_h G)]) (n := 3) (Nat.le_of_ble_eq_true rfl)
  rw [lg_entry_eq]
  generalize (lg_sl ([.ref (mg_h G)]) ++ List.replicate (3 - (lg_sl ([.ref (mg_h G)])).length) Slot.unset).toArray = ls at hl ⊢
  have hl : lv_has ls 3 [(0, .ref (mg_h G))] := hl
  refine lv_iconst (v := (nI 0)) hx hb dX1_frames_0 (by decide +kernel) ?_
  refine lv_istore_n (lv' := [(1, .int (nI 0)), (0, .ref (mg_h G))]) hx hb dX1_frames_1 rfl hl (by decide) rfl (fun ls hl => ?_)
  refine lv_iconst (v := (nI 0)) hx hb dX1_frames_2 (by decide +kernel) ?_
  refine lv_istore_n (lv' := [(2, .int (nI 0)), (1, .int (nI 0)), (0, .ref (mg_h G))]) hx hb dX1_frames_3 rfl hl (by decide) rfl (fun ls hl => ?_)
  have loop : ∀ (n : Nat) (i : Nat) (d : Nat) (ls : Array Slot) (H : Heap) (locs : List Loc), i + n = 200 → d = ct_b (fun i => decide (0 < cn_f (mv_F S) (i + 1))) i → lv_has ls 3 [(2, .int (nI i)), (1, .int (nI d)), (0, .ref (mg_h G))] → mc_at G (mg_A G) s.heap S H locs → W p l e (headSpec wX1_frames ({ frames := 2, cells := 0, slots := 0, locals := 64 })).room s m [.ref (mg_h G)].toArray below meth c H locs 0 0 (MQ below (va_Qi (fun (v : Int32) (S' : ms_T) => v = nI (nz_f (cn_f (mv_F S))) ∧ S' = S) (mc_q G) (mg_A G)) [.ref (mg_h G)].toArray s 0 0 (mg_A G)) (F0 m 4 ls []) := by
    intro n
    induction n with
    | zero =>
      intro i d ls H locs hm hc hl hC
      refine lv_iload_n hx hb dX1_frames_4 rfl (lv_at hl 0 rfl) ?_
      refine lv_sipush (v := (nI 200)) hx hb dX1_frames_5 (by decide +kernel) ?_
      refine wn_ge (tgt := 28) hx hb (by omega) (by omega) dX1_frames_8 rfl (fun _ => ?_) (fun h9 => absurd h9 (by omega))
      refine lv_iload_n hx hb dX1_frames_28 rfl (lv_at hl 1 rfl) ?_
      obtain rfl : i = 200 := by omega
      exact mr_iret hx hb hr hlk hC (⟨by rw [hc]; rfl, rfl⟩) dX1_frames_29
    | succ n ih =>
      intro i d ls H locs hm hc hl hC
      refine lv_iload_n hx hb dX1_frames_4 rfl (lv_at hl 0 rfl) ?_
      refine lv_sipush (v := (nI 200)) hx hb dX1_frames_5 (by decide +kernel) ?_
      refine wn_ge (tgt := 28) hx hb (by omega) (by omega) dX1_frames_8 rfl (fun h9 => absurd h9 (by omega)) (fun _ => ?_)
      refine lv_aload_n hx hb dX1_frames_11 rfl (lv_at hl 2 rfl) ?_
      refine lv_iload_n hx hb dX1_frames_12 rfl (lv_at hl 0 rfl) ?_
      rw [← ks_e1 i]
      refine mr_ci (As := [.int (ks_e (i + 1))]) (rest := []) ⟨hx, hb, hml, hown, hts⟩ (k1_holdersOf l G S (i + 1) (by omega) (by omega) hO) (cwV 1 hts gX1_38 rfl rfl rfl hX1_holdersOf ⟨Nat.le_of_ble_eq_true rfl, Nat.le_of_ble_eq_true rfl⟩) hK hC rfl hl.1 rfl (Nat.le_of_ble_eq_true rfl) dX1_frames_13 ⟨Nat.zero_le _, Nat.zero_le _⟩ (fun v S1 H locs hp hC => ?_)
      obtain ⟨rfl, hS1⟩ := hp
      rw [hS1] at hC
      have hb9 := cn_f_b (F := mv_F S) (f := i + 1)
      refine wn_ifle (tgt := 22) hx hb (by omega) dX1_frames_16 rfl (fun h3 => ?_) (fun h3 => ?_)
      · refine lv_iinc (lv' := [(2, .int (nI (i + 1))), (1, .int (nI d)), (0, .ref (mg_h G))]) (v := (nI (i + 1))) (k := 0) hx hb dX1_frames_22 hl rfl (nI_1 _) (by decide) rfl (fun ls hl => ?_)
        refine lv_goto (tgt := 4) hx hb dX1_frames_25 rfl ?_
        exact ih (i + 1) d ls H locs (by omega) (by rw [hc, ct_b_f (decide_eq_false (by omega))]) hl hC
      · refine lv_iinc (lv' := [(1, .int (nI (d + 1))), (2, .int (nI i)), (0, .ref (mg_h G))]) (v := (nI (d + 1))) (k := 1) hx hb dX1_frames_19 hl rfl (nI_1 _) (by decide) rfl (fun ls hl => ?_)
        refine lv_iinc (lv' := [(2, .int (nI (i + 1))), (1, .int (nI (d + 1))), (0, .ref (mg_h G))]) (v := (nI (i + 1))) (k := 1) hx hb dX1_frames_22 hl rfl (nI_1 _) (by decide) rfl (fun ls hl => ?_)
        refine lv_goto (tgt := 4) hx hb dX1_frames_25 rfl ?_
        exact ih (i + 1) (d + 1) ls H locs (by omega) (by rw [hc, ct_b_t (decide_eq_true (by omega))]) hl hC
  exact loop 200 0 0 ls s.heap [] rfl rfl hl hC
set_option maxHeartbeats 4000000 in
set_option maxRecDepth 100000 in
/-- free() -/
theorem k1_free (l : Launch) (G : mg_T) (S : ms_T) (hO : mv_ok S) : Met l yX1_free wX1_free ({ frames := 2, cells := 0, slots := 0, locals := 64 }) (va_Pc [.ref (mg_h G)] (mc_p G S)) (va_Qi (fun (v : Int32) (S' : ms_T) => v = nI (ls_b (fun f => decide (cn_f (mv_F S) (f + 1) = 0)) 200) ∧ S' = S) (mc_q G) (mg_A G)) 0 0 (mg_A G) := by
  refine Met.ofW (cc := cX1_free) (maxL := 2) (ret := (some .int)) (by decide) rfl ?_
  intro p e s m args below meth c s₁ B hml hv
  obtain ⟨rfl, hv⟩ := hv
  have hx := B.exec
  have hb := B.bytes
  have hr := B.returns
  have hlk := B.notSynchronized
  have hts := atoms_spec (ws := wX1_free) B.pre
  have hT : ∀ w ∈ nw_T, w.before _ s = true := fun w h => hts w (List.mem_cons_of_mem _ h)
  have hown : s.vm.findClass RX1 = some m.cls := findClass_of_methodNamed B.named
  have hK : mc_K G s := hv.2.2
  have hC := mc_start hv
  have hl := lv_entry ([.ref (mg_h G)]) (n := 2) (Nat.le_of_ble_eq_true rfl)
  rw [lg_entry_eq]
  generalize (lg_sl ([.ref (mg_h G)]) ++ List.replicate (2 - (lg_sl ([.ref (mg_h G)])).length) Slot.unset).toArray = ls at hl ⊢
  have hl : lv_has ls 2 [(0, .ref (mg_h G))] := hl
  refine lv_iconst (v := (nI 0)) hx hb dX1_free_0 (by decide +kernel) ?_
  refine lv_istore_n (lv' := [(1, .int (nI 0)), (0, .ref (mg_h G))]) hx hb dX1_free_1 rfl hl (by decide) rfl (fun ls hl => ?_)
  have loop : ∀ (n : Nat) (i : Nat) (ls : Array Slot) (H : Heap) (locs : List Loc), i + n = 200 → (∀ j, j < i → (fun f => decide (cn_f (mv_F S) (f + 1) = 0)) j = false) → lv_has ls 2 [(1, .int (nI i)), (0, .ref (mg_h G))] → mc_at G (mg_A G) s.heap S H locs → W p l e (headSpec wX1_free ({ frames := 2, cells := 0, slots := 0, locals := 64 })).room s m [.ref (mg_h G)].toArray below meth c H locs 0 0 (MQ below (va_Qi (fun (v : Int32) (S' : ms_T) => v = nI (ls_b (fun f => decide (cn_f (mv_F S) (f + 1) = 0)) 200) ∧ S' = S) (mc_q G) (mg_A G)) [.ref (mg_h G)].toArray s 0 0 (mg_A G)) (F0 m 2 ls []) := by
    intro n
    induction n with
    | zero =>
      intro i ls H locs hm hI hl hC
      refine lv_iload_n hx hb dX1_free_2 rfl (lv_at hl 0 rfl) ?_
      refine lv_sipush (v := (nI 200)) hx hb dX1_free_3 (by decide +kernel) ?_
      refine wn_ge (tgt := 23) hx hb (by omega) (by omega) dX1_free_6 rfl (fun _ => ?_) (fun h9 => absurd h9 (by omega))
      refine lv_iload_n hx hb dX1_free_23 rfl (lv_at hl 0 rfl) ?_
      have e : ls_b (fun f => decide (cn_f (mv_F S) (f + 1) = 0)) 200 = i := by rw [ls_none (fun j hj => hI j (by omega))]; omega
      exact mr_iret hx hb hr hlk hC (⟨by rw [e], rfl⟩) dX1_free_24
    | succ n ih =>
      intro i ls H locs hm hI hl hC
      refine lv_iload_n hx hb dX1_free_2 rfl (lv_at hl 0 rfl) ?_
      refine lv_sipush (v := (nI 200)) hx hb dX1_free_3 (by decide +kernel) ?_
      refine wn_ge (tgt := 23) hx hb (by omega) (by omega) dX1_free_6 rfl (fun h9 => absurd h9 (by omega)) (fun _ => ?_)
      refine lv_aload_n hx hb dX1_free_9 rfl (lv_at hl 1 rfl) ?_
      refine lv_iload_n hx hb dX1_free_10 rfl (lv_at hl 0 rfl) ?_
      rw [← ks_e1 i]
      refine mr_ci (As := [.int (ks_e (i + 1))]) (rest := []) ⟨hx, hb, hml, hown, hts⟩ (k1_holdersOf l G S (i + 1) (by omega) (by omega) hO) (cwV 1 hts gX1_38 rfl rfl rfl hX1_holdersOf ⟨Nat.le_of_ble_eq_true rfl, Nat.le_of_ble_eq_true rfl⟩) hK hC rfl hl.1 rfl (Nat.le_of_ble_eq_true rfl) dX1_free_11 ⟨Nat.zero_le _, Nat.zero_le _⟩ (fun v S1 H locs hp hC => ?_)
      obtain ⟨rfl, hS1⟩ := hp
      rw [hS1] at hC
      have hb9 := cn_f_b (F := mv_F S) (f := i + 1)
      refine wn_ifle (tgt := 23) hx hb (by omega) dX1_free_14 rfl (fun h3 => ?_) (fun h3 => ?_)
      · refine lv_iload_n hx hb dX1_free_23 rfl (lv_at hl 0 rfl) ?_
        have e : ls_b (fun f => decide (cn_f (mv_F S) (f + 1) = 0)) 200 = i := ls_is (by omega) (decide_eq_true (by omega)) hI
        exact mr_iret hx hb hr hlk hC (⟨by rw [e], rfl⟩) dX1_free_24
      · refine lv_iinc (lv' := [(1, .int (nI (i + 1))), (0, .ref (mg_h G))]) (v := (nI (i + 1))) (k := 0) hx hb dX1_free_17 hl rfl (nI_1 _) (by decide) rfl (fun ls hl => ?_)
        refine lv_goto (tgt := 2) hx hb dX1_free_20 rfl ?_
        exact ih (i + 1) ls H locs (by omega) (lt_s hI (decide_eq_false (by omega))) hl hC
  exact loop 200 0 ls s.heap [] rfl lt_0 hl hC
set_option maxHeartbeats 4000000 in
set_option maxRecDepth 100000 in
/-- own0(r, f), f = g - 1 -/
theorem k1_own0 (l : Launch) (G : mg_T) (S : ms_T) (r g : Nat) (h40 : r < 40) (hg2 : g ≤ 200) (hO : mv_ok S) : Met l yX1_own0 wX1_own0 ({ frames := 1, cells := 0, slots := 0, locals := 32 }) (va_Pc [.ref (mg_h G), .int (nI r), .int (ks_e g)] (mc_p G S)) (va_Qi (fun (v : Int32) (S' : ms_T) => v = nI (ct_b (fun p => decide (ms_F S (32 * r + p) = g)) (ms_P S r)) ∧ S' = S) (mc_q G) (mg_A G)) 0 0 (mg_A G) := by
  refine Met.ofW (cc := cX1_own0) (maxL := 5) (ret := (some .int)) (by decide) rfl ?_
  intro p e s m args below meth c s₁ B hml hv
  obtain ⟨rfl, hv⟩ := hv
  have hx := B.exec
  have hb := B.bytes
  have hr := B.returns
  have hlk := B.notSynchronized
  have hts := atoms_spec (ws := wX1_own0) B.pre
  have hT : ∀ w ∈ nw_T, w.before _ s = true := fun w h => hts w (List.mem_cons_of_mem _ h)
  have hown : s.vm.findClass RX1 = some m.cls := findClass_of_methodNamed B.named
  have hK : mc_K G s := hv.2.2
  have hC := mc_start hv
  have hl := lv_entry ([.ref (mg_h G), .int (nI r), .int (ks_e g)]) (n := 5) (Nat.le_of_ble_eq_true rfl)
  rw [lg_entry_eq]
  generalize (lg_sl ([.ref (mg_h G), .int (nI r), .int (ks_e g)]) ++ List.replicate (5 - (lg_sl ([.ref (mg_h G), .int (nI r), .int (ks_e g)])).length) Slot.unset).toArray = ls at hl ⊢
  have hl : lv_has ls 5 [(0, .ref (mg_h G)), (1, .int (nI r)), (2, .int (ks_e g))] := hl
  have hP1 := hO.2.1 r h40
  refine lv_iconst (v := (nI 0)) hx hb dX1_own0_0 (by decide +kernel) ?_
  refine lv_istore_n (lv' := [(3, .int (nI 0)), (0, .ref (mg_h G)), (1, .int (nI r)), (2, .int (ks_e g))]) hx hb dX1_own0_1 rfl hl (by decide) rfl (fun ls hl => ?_)
  refine lv_iconst (v := (nI 0)) hx hb dX1_own0_2 (by decide +kernel) ?_
  refine lv_istore (lv' := [(4, .int (nI 0)), (3, .int (nI 0)), (0, .ref (mg_h G)), (1, .int (nI r)), (2, .int (ks_e g))]) hx hb dX1_own0_3 hl (by decide) rfl (fun ls hl => ?_)
  have loop : ∀ (n : Nat) (i : Nat) (d : Nat) (ls : Array Slot) (H : Heap) (locs : List Loc), i + n = ms_P S r → d = ct_b (fun p => decide (ms_F S (32 * r + p) = g)) i → lv_has ls 5 [(4, .int (nI i)), (3, .int (nI d)), (0, .ref (mg_h G)), (1, .int (nI r)), (2, .int (ks_e g))] → mc_at G (mg_A G) s.heap S H locs → W p l e (headSpec wX1_own0 ({ frames := 1, cells := 0, slots := 0, locals := 32 })).room s m [.ref (mg_h G), .int (nI r), .int (ks_e g)].toArray below meth c H locs 0 0 (MQ below (va_Qi (fun (v : Int32) (S' : ms_T) => v = nI (ct_b (fun p => decide (ms_F S (32 * r + p) = g)) (ms_P S r)) ∧ S' = S) (mc_q G) (mg_A G)) [.ref (mg_h G), .int (nI r), .int (ks_e g)].toArray s 0 0 (mg_A G)) (F0 m 5 ls []) := by
    intro n
    induction n with
    | zero =>
      intro i d ls H locs hm hc hl hC
      refine lv_iload hx hb dX1_own0_5 (lv_at hl 0 rfl) ?_
      refine lv_aload_n hx hb dX1_own0_7 rfl (lv_at hl 2 rfl) ?_
      refine mr_get hx hb hT mx_in hown hK hC 2 (by decide) (hT _ mw_372) rfl rfl dX1_own0_8 ?_
      refine lv_iload_n hx hb dX1_own0_11 rfl (lv_at hl 3 rfl) ?_
      refine mr_ldP hx hb hK hC (by omega) dX1_own0_12 ?_
      refine wn_ge (tgt := 36) hx hb (by omega) (by omega) dX1_own0_13 rfl (fun _ => ?_) (fun h9 => absurd h9 (by omega))
      refine lv_iload_n hx hb dX1_own0_36 rfl (lv_at hl 1 rfl) ?_
      exact mr_iret hx hb hr hlk hC (⟨by rw [hc, show i = ms_P S r by omega], rfl⟩) dX1_own0_37
    | succ n ih =>
      intro i d ls H locs hm hc hl hC
      refine lv_iload hx hb dX1_own0_5 (lv_at hl 0 rfl) ?_
      refine lv_aload_n hx hb dX1_own0_7 rfl (lv_at hl 2 rfl) ?_
      refine mr_get hx hb hT mx_in hown hK hC 2 (by decide) (hT _ mw_372) rfl rfl dX1_own0_8 ?_
      refine lv_iload_n hx hb dX1_own0_11 rfl (lv_at hl 3 rfl) ?_
      refine mr_ldP hx hb hK hC (by omega) dX1_own0_12 ?_
      refine wn_ge (tgt := 36) hx hb (by omega) (by omega) dX1_own0_13 rfl (fun h9 => absurd h9 (by omega)) (fun _ => ?_)
      refine lv_aload_n hx hb dX1_own0_16 rfl (lv_at hl 2 rfl) ?_
      refine lv_iload_n hx hb dX1_own0_17 rfl (lv_at hl 3 rfl) ?_
      refine lv_iload hx hb dX1_own0_18 (lv_at hl 0 rfl) ?_
      refine mr_ci (As := [.int (nI r), .int (nI i)]) (rest := []) ⟨hx, hb, hml, hown, hts⟩ (k1_at l G S r i (by omega) (by omega)) (cwV 2 hts gX1_34 rfl rfl rfl hX1_at ⟨Nat.le_of_ble_eq_true rfl, Nat.le_of_ble_eq_true rfl⟩) hK hC rfl hl.1 rfl (Nat.le_of_ble_eq_true rfl) dX1_own0_20 ⟨Nat.zero_le _, Nat.zero_le _⟩ (fun v S1 H locs hp hC => ?_)
      obtain ⟨rfl, hS1⟩ := hp
      rw [hS1] at hC
      have hF := hO.2.2 (32 * r + i) (by omega)
      refine lv_iload_n hx hb dX1_own0_23 rfl (lv_at hl 4 rfl) ?_
      refine lv_icmp_ne (tgt := 30) hx hb dX1_own0_24 rfl (fun h3 => ?_) (fun h3 => ?_)
      · refine lv_iinc (lv' := [(4, .int (nI (i + 1))), (3, .int (nI d)), (0, .ref (mg_h G)), (1, .int (nI r)), (2, .int (ks_e g))]) (v := (nI (i + 1))) (k := 0) hx hb dX1_own0_30 hl rfl (nI_1 _) (by decide) rfl (fun ls hl => ?_)
        refine lv_goto (tgt := 5) hx hb dX1_own0_33 rfl ?_
        exact ih (i + 1) d ls H locs (by omega) (by rw [hc, ct_b_f (decide_eq_false (fun e => h3 (by rw [e])))]) hl hC
      · refine lv_iinc (lv' := [(3, .int (nI (d + 1))), (4, .int (nI i)), (0, .ref (mg_h G)), (1, .int (nI r)), (2, .int (ks_e g))]) (v := (nI (d + 1))) (k := 1) hx hb dX1_own0_27 hl rfl (nI_1 _) (by decide) rfl (fun ls hl => ?_)
        refine lv_iinc (lv' := [(4, .int (nI (i + 1))), (3, .int (nI (d + 1))), (0, .ref (mg_h G)), (1, .int (nI r)), (2, .int (ks_e g))]) (v := (nI (i + 1))) (k := 1) hx hb dX1_own0_30 hl rfl (nI_1 _) (by decide) rfl (fun ls hl => ?_)
        refine lv_goto (tgt := 5) hx hb dX1_own0_33 rfl ?_
        exact ih (i + 1) (d + 1) ls H locs (by omega) (by rw [hc, ct_b_t (decide_eq_true ((ks_e_eq (by omega) (by omega)).mp h3))]) hl hC
  exact loop (ms_P S r) 0 0 ls s.heap [] (by omega) rfl hl hC
set_option maxHeartbeats 4000000 in
set_option maxRecDepth 100000 in
/-- same(f, g) -/
theorem k1_same (l : Launch) (G : mg_T) (S : ms_T) (f g : Nat) (hf : f < 200) (hg : g < 200) : Met l yX1_same wX1_same ({ frames := 0, cells := 0, slots := 0, locals := 0 }) (va_Pc [.ref (mg_h G), .int (nI f), .int (nI g)] (mc_p G S)) (va_Qi (fun (v : Int32) (S' : ms_T) => v = (if ms_same S f g = true then 1 else 0) ∧ S' = S) (mc_q G) (mg_A G)) 0 0 (mg_A G) := by
  refine Met.ofW (cc := cX1_same) (maxL := 4) (ret := (some .boolean)) (by decide) rfl ?_
  intro p e s m args below meth c s₁ B hml hv
  obtain ⟨rfl, hv⟩ := hv
  have hx := B.exec
  have hb := B.bytes
  have hr := B.returns
  have hlk := B.notSynchronized
  have hts := atoms_spec (ws := wX1_same) B.pre
  have hT : ∀ w ∈ nw_T, w.before _ s = true := fun w h => hts w (List.mem_cons_of_mem _ h)
  have hown : s.vm.findClass RX1 = some m.cls := findClass_of_methodNamed B.named
  have hK : mc_K G s := hv.2.2
  have hC := mc_start hv
  have hl := lv_entry ([.ref (mg_h G), .int (nI f), .int (nI g)]) (n := 4) (Nat.le_of_ble_eq_true rfl)
  rw [lg_entry_eq]
  generalize (lg_sl ([.ref (mg_h G), .int (nI f), .int (nI g)]) ++ List.replicate (4 - (lg_sl ([.ref (mg_h G), .int (nI f), .int (nI g)])).length) Slot.unset).toArray = ls at hl ⊢
  have hl : lv_has ls 4 [(0, .ref (mg_h G)), (1, .int (nI f)), (2, .int (nI g))] := hl
  refine lv_iconst (v := (nI 0)) hx hb dX1_same_0 (by decide +kernel) ?_
  refine lv_istore_n (lv' := [(3, .int (nI 0)), (0, .ref (mg_h G)), (1, .int (nI f)), (2, .int (nI g))]) hx hb dX1_same_1 rfl hl (by decide) rfl (fun ls hl => ?_)
  have loop : ∀ (n : Nat) (i : Nat) (ls : Array Slot) (H : Heap) (locs : List Loc), i + n = 8 → (∀ j, j < i → ms_C S (8 * f + j) = ms_C S (8 * g + j)) → lv_has ls 4 [(3, .int (nI i)), (0, .ref (mg_h G)), (1, .int (nI f)), (2, .int (nI g))] → mc_at G (mg_A G) s.heap S H locs → W p l e (headSpec wX1_same ({ frames := 0, cells := 0, slots := 0, locals := 0 })).room s m [.ref (mg_h G), .int (nI f), .int (nI g)].toArray below meth c H locs 0 0 (MQ below (va_Qi (fun (v : Int32) (S' : ms_T) => v = (if ms_same S f g = true then 1 else 0) ∧ S' = S) (mc_q G) (mg_A G)) [.ref (mg_h G), .int (nI f), .int (nI g)].toArray s 0 0 (mg_A G)) (F0 m 2 ls []) := by
    intro n
    induction n with
    | zero =>
      intro i ls H locs hm hI hl hC
      refine lv_iload_n hx hb dX1_same_2 rfl (lv_at hl 0 rfl) ?_
      refine lv_bipush (v := (nI 8)) hx hb dX1_same_3 (by decide +kernel) ?_
      refine wn_ge (tgt := 41) hx hb (by omega) (by omega) dX1_same_5 rfl (fun _ => ?_) (fun h9 => absurd h9 (by omega))
      refine lv_iconst (v := (nI 1)) hx hb dX1_same_41 (by decide +kernel) ?_
      have e : ms_same S f g = true := ms_same_iff.mpr (fun j hj => hI j (by omega))
      exact mr_zret hx hb hr hlk hC (by decide +kernel) (⟨by rw [e]; rfl, rfl⟩) dX1_same_42
    | succ n ih =>
      intro i ls H locs hm hI hl hC
      refine lv_iload_n hx hb dX1_same_2 rfl (lv_at hl 0 rfl) ?_
      refine lv_bipush (v := (nI 8)) hx hb dX1_same_3 (by decide +kernel) ?_
      refine wn_ge (tgt := 41) hx hb (by omega) (by omega) dX1_same_5 rfl (fun h9 => absurd h9 (by omega)) (fun _ => ?_)
      refine lv_aload_n hx hb dX1_same_8 rfl (lv_at hl 1 rfl) ?_
      refine mr_get hx hb hT mx_in hown hK hC 4 (by decide) (hT _ mw_374) rfl rfl dX1_same_9 ?_
      refine lv_bipush (v := (nI 8)) hx hb dX1_same_12 (by decide +kernel) ?_
      refine lv_iload_n hx hb dX1_same_14 rfl (lv_at hl 2 rfl) ?_
      refine wn_mul hx hb dX1_same_15 ?_
      refine lv_iload_n hx hb dX1_same_16 rfl (lv_at hl 0 rfl) ?_
      refine wn_add hx hb dX1_same_17 ?_
      refine mr_ldC hx hb hK hC (by omega) dX1_same_18 ?_
      refine lv_aload_n hx hb dX1_same_19 rfl (lv_at hl 1 rfl) ?_
      refine mr_get hx hb hT mx_in hown hK hC 4 (by decide) (hT _ mw_374) rfl rfl dX1_same_20 ?_
      refine lv_bipush (v := (nI 8)) hx hb dX1_same_23 (by decide +kernel) ?_
      refine lv_iload_n hx hb dX1_same_25 rfl (lv_at hl 3 rfl) ?_
      refine wn_mul hx hb dX1_same_26 ?_
      refine lv_iload_n hx hb dX1_same_27 rfl (lv_at hl 0 rfl) ?_
      refine wn_add hx hb dX1_same_28 ?_
      refine mr_ldC hx hb hK hC (by omega) dX1_same_29 ?_
      refine lv_icmp_eq (tgt := 35) hx hb dX1_same_30 rfl (fun h3 => ?_) (fun h3 => ?_)
      · refine lv_iinc (lv' := [(3, .int (nI (i + 1))), (0, .ref (mg_h G)), (1, .int (nI f)), (2, .int (nI g))]) (v := (nI (i + 1))) (k := 0) hx hb dX1_same_35 hl rfl (nI_1 _) (by decide) rfl (fun ls hl => ?_)
        refine lv_goto (tgt := 2) hx hb dX1_same_38 rfl ?_
        exact ih (i + 1) ls H locs (by omega) (lt_s hI h3) hl hC
      · have e : ms_same S f g = false := by
          cases hb9 : ms_same S f g
          · rfl
          · exact absurd (ms_same_iff.mp hb9 i (by omega)) h3
        refine lv_iconst (v := (nI 0)) hx hb dX1_same_33 (by decide +kernel) ?_
        exact mr_zret hx hb hr hlk hC (by decide +kernel) (⟨by rw [e]; rfl, rfl⟩) dX1_same_34
  exact loop 8 0 ls s.heap [] rfl lt_0 hl hC
set_option maxHeartbeats 4000000 in
set_option maxRecDepth 100000 in
/-- cellOf(r, k, d) -/
theorem k1_cellOf (l : Launch) (G : mg_T) (S : ms_T) (r k d : Nat) (h40 : r < 40) (h32 : k < 32) (h8 : d < 8) (hO : mv_ok S) : Met l yX1_cellOf wX1_cellOf ({ frames := 1, cells := 0, slots := 0, locals := 32 }) (va_Pc [.ref (mg_h G), .int (nI r), .int (nI k), .int (nI d)] (mc_p G S)) (va_Qi (fun (v : Int32) (S' : ms_T) => v = ms_c S (ms_F S (32 * r + k)) d ∧ S' = S) (mc_q G) (mg_A G)) 0 0 (mg_A G) := by
  refine Met.ofW (cc := cX1_cellOf) (maxL := 4) (ret := (some .int)) (by decide) rfl ?_
  intro p e s m args below meth c s₁ B hml hv
  obtain ⟨rfl, hv⟩ := hv
  have hx := B.exec
  have hb := B.bytes
  have hr := B.returns
  have hlk := B.notSynchronized
  have hts := atoms_spec (ws := wX1_cellOf) B.pre
  have hT : ∀ w ∈ nw_T, w.before _ s = true := fun w h => hts w (List.mem_cons_of_mem _ h)
  have hown : s.vm.findClass RX1 = some m.cls := findClass_of_methodNamed B.named
  have hK : mc_K G s := hv.2.2
  have hC := mc_start hv
  have hl := lv_entry ([.ref (mg_h G), .int (nI r), .int (nI k), .int (nI d)]) (n := 4) (Nat.le_of_ble_eq_true rfl)
  rw [lg_entry_eq]
  generalize (lg_sl ([.ref (mg_h G), .int (nI r), .int (nI k), .int (nI d)]) ++ List.replicate (4 - (lg_sl ([.ref (mg_h G), .int (nI r), .int (nI k), .int (nI d)])).length) Slot.unset).toArray = ls at hl ⊢
  have hl : lv_has ls 4 [(0, .ref (mg_h G)), (1, .int (nI r)), (2, .int (nI k)), (3, .int (nI d))] := hl
  have hF := hO.2.2 (32 * r + k) (by omega)
  refine lv_aload_n hx hb dX1_cellOf_0 rfl (lv_at hl 0 rfl) ?_
  refine lv_iload_n hx hb dX1_cellOf_1 rfl (lv_at hl 1 rfl) ?_
  refine lv_iload_n hx hb dX1_cellOf_2 rfl (lv_at hl 2 rfl) ?_
  refine mr_ci (As := [.int (nI r), .int (nI k)]) (rest := []) ⟨hx, hb, hml, hown, hts⟩ (k1_at l G S r k (by omega) (by omega)) (cwV 2 hts gX1_34 rfl rfl rfl hX1_at ⟨Nat.le_of_ble_eq_true rfl, Nat.le_of_ble_eq_true rfl⟩) hK hC rfl hl.1 rfl (Nat.le_of_ble_eq_true rfl) dX1_cellOf_3 ⟨Nat.zero_le _, Nat.zero_le _⟩ (fun v S1 H locs hp hC => ?_)
  obtain ⟨rfl, hS1⟩ := hp
  rw [hS1] at hC
  refine lv_iconst (v := (-1)) hx hb dX1_cellOf_6 (by decide +kernel) ?_
  refine lv_icmp_ne (tgt := 14) hx hb dX1_cellOf_7 rfl (fun h3 => ?_) (fun h3 => ?_)
  · have h4 : ms_F S (32 * r + k) ≠ 0 := fun e => h3 (by rw [e]; rfl)
    refine lv_aload_n hx hb dX1_cellOf_14 rfl (lv_at hl 0 rfl) ?_
    refine mr_get hx hb hT mx_in hown hK hC 4 (by decide) (hT _ mw_374) rfl rfl dX1_cellOf_15 ?_
    refine lv_bipush (v := (nI 8)) hx hb dX1_cellOf_18 (by decide +kernel) ?_
    refine lv_aload_n hx hb dX1_cellOf_20 rfl (lv_at hl 0 rfl) ?_
    refine lv_iload_n hx hb dX1_cellOf_21 rfl (lv_at hl 1 rfl) ?_
    refine lv_iload_n hx hb dX1_cellOf_22 rfl (lv_at hl 2 rfl) ?_
    refine mr_ci (As := [.int (nI r), .int (nI k)]) (rest := [.int (nI 8), .ref (mg_a G 3)]) ⟨hx, hb, hml, hown, hts⟩ (k1_at l G S r k (by omega) (by omega)) (cwV 2 hts gX1_34 rfl rfl rfl hX1_at ⟨Nat.le_of_ble_eq_true rfl, Nat.le_of_ble_eq_true rfl⟩) hK hC rfl hl.1 rfl (Nat.le_of_ble_eq_true rfl) dX1_cellOf_23 ⟨Nat.zero_le _, Nat.zero_le _⟩ (fun v S1 H locs hp hC => ?_)
    obtain ⟨rfl, hS1⟩ := hp
    rw [hS1] at hC
    rw [ks_es h4]
    refine wn_mul hx hb dX1_cellOf_26 ?_
    refine lv_iload_n hx hb dX1_cellOf_27 rfl (lv_at hl 3 rfl) ?_
    refine wn_add hx hb dX1_cellOf_28 ?_
    refine mr_ldC hx hb hK hC (by omega) dX1_cellOf_29 ?_
    exact mr_iret hx hb hr hlk hC (⟨by unfold ms_c; rw [if_neg h4], rfl⟩) dX1_cellOf_30
  · have h4 : ms_F S (32 * r + k) = 0 := (ks_eN (by omega)).mp h3
    refine lv_iconst (v := (nI 0)) hx hb dX1_cellOf_10 (by decide +kernel) ?_
    refine lv_goto (tgt := 30) hx hb dX1_cellOf_11 rfl ?_
    exact mr_iret hx hb hr hlk hC (⟨by unfold ms_c; rw [if_pos h4]; rfl, rfl⟩) dX1_cellOf_30
