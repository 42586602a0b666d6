/-! the reference's public methods, first half (laid by program) -/
def mo_pgs (M : ms_T) (x y z : Int32) (j a b : Nat) : Prop := mo_row M x j ∧ y = nI a ∧ z = nI b ∧ a + b ≤ ms_P M j
def ms_al (S : ms_T) (g : Nat) : Prop := g ≠ 0 ∧ cn_f (mv_F S) g = 1
def ms_nf (S : ms_T) (x f : Nat) : ms_T := ms_sF (ms_uC S (mf_w (ms_C S) (8 * f) (ms_c S (ms_F S x)) 8)) x (f + 1)
theorem ms_nf_F (S : ms_T) (x f : Nat) : ms_F (ms_nf S x f) x = f + 1 := if_pos rfl
set_option maxHeartbeats 4000000 in
set_option maxRecDepth 100000 in
/-- make(x) -/
theorem k1_make (l : Launch) (G : mg_T) (S : ms_T) (x : Int32) (hO : mv_ok S) : Met l yX1_make wX1_make ({ frames := 1, cells := 0, slots := 0, locals := 32 }) (va_Pc [.ref (mg_h G), .int x] (mc_p G S)) (va_Qi (fun (v : Int32) (S' : ms_T) => (ks_cnt x = false ∧ v = nI 0 ∧ S' = ms_st S 1) ∨ (ks_cnt x = true ∧ (∀ j, j < 40 → ms_B S j ≠ 0) ∧ v = nI 0 ∧ S' = ms_st S 2) ∨ ∃ r k, r < 40 ∧ k ≤ 32 ∧ x = nI k ∧ ms_B S r = 0 ∧ (∀ j, j < r → ms_B S j ≠ 0) ∧ v = nI r ∧ S' = ms_uF (ms_sP (ms_sB (ms_st S 0) r 1) r k) (mf_w (ms_F S) (32 * r) (fun _ => 0) k)) (mc_q G) (mg_A G)) 0 0 (mg_A G) := by
  refine Met.ofW (cc := cX1_make) (maxL := 4) (ret := (some .int)) (by decide) rfl ?_
  intro p e s m args below meth c s₁ B hml hv
  obtain ⟨rfl, hv⟩ := hv
  have hx := B.exec
  have hb := B.bytes
  have hr := B.returns
  have hlk := B.notSynchronized
  have hts := atoms_spec (ws := wX1_make) B.pre
  have hT : ∀ w ∈ nw_T, w.before _ s = true := fun w h => hts w (List.mem_cons_of_mem _ h)
  have hown : s.vm.findClass RX1 = some m.cls := findClass_of_methodNamed B.named
  have hK : mc_K G s := hv.2.2
  have hC := mc_start hv
  have hl := lv_entry ([.ref (mg_h G), .int x]) (n := 4) (Nat.le_of_ble_eq_true rfl)
  rw [lg_entry_eq]
  generalize (lg_sl ([.ref (mg_h G), .int x]) ++ List.replicate (4 - (lg_sl ([.ref (mg_h G), .int x])).length) Slot.unset).toArray = ls at hl ⊢
  have hl : lv_has ls 4 [(0, .ref (mg_h G)), (1, .int x)] := hl
  obtain ⟨r, hr9⟩ : ∃ r, r = ls_b (fun r => decide (ms_B S r = 0)) 40 := ⟨_, rfl⟩
  have hr40 : r ≤ 40 := by rw [hr9]; exact ls_le _ _
  have hrm : ∀ j, j < r → ms_B S j ≠ 0 := fun j hj => of_decide_eq_false (ls_no (q := (fun r => decide (ms_B S r = 0))) (n := 40) (by rw [← hr9]; exact hj))
  refine lv_aload_n hx hb dX1_make_0 rfl (lv_at hl 0 rfl) ?_
  refine lv_iload_n hx hb dX1_make_1 rfl (lv_at hl 1 rfl) ?_
  refine lv_if_lt (tgt := 11) hx hb dX1_make_2 rfl (fun h1 => ?_) (fun h1 => ?_)
  · refine lv_iconst (v := (nI 1)) hx hb dX1_make_11 (by decide +kernel) ?_
    refine lv_goto (tgt := 29) hx hb dX1_make_12 rfl ?_
    refine mr_put (x := 1) hx hb hT mx_in hown hK hC (hT _ mw_370) dX1_make_29 (fun H locs hC => ?_)
    refine lv_aload_n hx hb dX1_make_32 rfl (lv_at hl 0 rfl) ?_
    refine mr_get (v := .int (nI 1)) hx hb hT mx_in hown hK hC 0 (by decide) (hT _ mw_370) rfl rfl dX1_make_33 ?_
    refine wn_ifle (tgt := 41) hx hb (by omega) dX1_make_36 rfl (fun h9 => absurd h9 (by omega)) (fun _ => ?_)
    refine lv_iconst (v := (nI 0)) hx hb dX1_make_39 (by decide +kernel) ?_
    exact mr_iret hx hb hr hlk hC (Or.inl ⟨by unfold ks_cnt; rw [decide_eq_false (fun w => w h1)]; rfl, rfl, rfl⟩) dX1_make_40
  · refine lv_iload_n hx hb dX1_make_5 rfl (lv_at hl 1 rfl) ?_
    refine lv_bipush (v := (nI 32)) hx hb dX1_make_6 (by decide +kernel) ?_
    refine lv_icmp_le (tgt := 15) hx hb dX1_make_8 rfl (fun h2 => ?_) (fun h2 => ?_)
    · have hcn : ks_cnt x = true := by unfold ks_cnt; rw [decide_eq_true h1, decide_eq_true h2]; rfl
      refine lv_aload_n hx hb dX1_make_15 rfl (lv_at hl 0 rfl) ?_
      refine mr_ci (As := []) (rest := [.ref (mg_h G)]) ⟨hx, hb, hml, hown, hts⟩ (k1_row l G S hO) (cwV 0 hts gX1_42 rfl rfl rfl hX1_row ⟨Nat.le_of_ble_eq_true rfl, Nat.le_of_ble_eq_true rfl⟩) hK hC rfl hl.1 rfl (Nat.le_of_ble_eq_true rfl) dX1_make_16 ⟨Nat.zero_le _, Nat.zero_le _⟩ (fun v S1 H locs hp hC => ?_)
      obtain ⟨hv1, hS1⟩ := hp
      rw [hS1] at hC
      have hv1 : v = nI r := by rw [hr9]; exact hv1
      subst hv1
      refine lv_bipush (v := (nI 40)) hx hb dX1_make_19 (by decide +kernel) ?_
      refine wn_ne (tgt := 28) hx hb (by omega) (by omega) dX1_make_21 rfl (fun h3 => ?_) (fun h3 => ?_)
      · have hr4 : r < 40 := by omega
        have hr0 : ms_B S r = 0 := by
          have h := ls_yes (q := (fun r => decide (ms_B S r = 0))) (n := 40) (by rw [← hr9]; exact hr4)
          rw [← hr9] at h
          exact of_decide_eq_true h
        obtain ⟨kk, hk, rfl⟩ := ks_cnt_ex hcn
        refine lv_iconst (v := (nI 0)) hx hb dX1_make_28 (by decide +kernel) ?_
        refine mr_put (x := 0) hx hb hT mx_in hown hK hC (hT _ mw_370) dX1_make_29 (fun H locs hC => ?_)
        refine lv_aload_n hx hb dX1_make_32 rfl (lv_at hl 0 rfl) ?_
        refine mr_get (v := .int (nI 0)) hx hb hT mx_in hown hK hC 0 (by decide) (hT _ mw_370) rfl rfl dX1_make_33 ?_
        refine wn_ifle (tgt := 41) hx hb (by omega) dX1_make_36 rfl (fun _ => ?_) (fun h9 => absurd h9 (by omega))
        refine lv_aload_n hx hb dX1_make_41 rfl (lv_at hl 0 rfl) ?_
        refine mr_ci (As := []) (rest := []) ⟨hx, hb, hml, hown, hts⟩ (k1_row l G (ms_st S 0) hO) (cwV 0 hts gX1_42 rfl rfl rfl hX1_row ⟨Nat.le_of_ble_eq_true rfl, Nat.le_of_ble_eq_true rfl⟩) hK hC rfl hl.1 rfl (Nat.le_of_ble_eq_true rfl) dX1_make_42 ⟨Nat.zero_le _, Nat.zero_le _⟩ (fun v S1 H locs hp hC => ?_)
        obtain ⟨hv1, hS1⟩ := hp
        rw [hS1] at hC
        have hv1 : v = nI r := by rw [hr9]; exact hv1
        subst hv1
        refine lv_istore_n (lv' := [(2, .int (nI r)), (0, .ref (mg_h G)), (1, .int (nI kk))]) hx hb dX1_make_45 rfl hl (by decide) rfl (fun ls hl => ?_)
        refine lv_aload_n hx hb dX1_make_46 rfl (lv_at hl 1 rfl) ?_
        refine mr_get hx hb hT mx_in hown hK hC 1 (by decide) (hT _ mw_371) rfl rfl dX1_make_47 ?_
        refine lv_iload_n hx hb dX1_make_50 rfl (lv_at hl 0 rfl) ?_
        refine lv_iconst (v := (nI 1)) hx hb dX1_make_51 (by decide +kernel) ?_
        refine mr_stB (y := 1) hx hb hK hC (by omega) (by decide +kernel) dX1_make_52 (fun H locs hC => ?_)
        refine lv_aload_n hx hb dX1_make_53 rfl (lv_at hl 1 rfl) ?_
        refine mr_get hx hb hT mx_in hown hK hC 2 (by decide) (hT _ mw_372) rfl rfl dX1_make_54 ?_
        refine lv_iload_n hx hb dX1_make_57 rfl (lv_at hl 0 rfl) ?_
        refine lv_iload_n hx hb dX1_make_58 rfl (lv_at hl 2 rfl) ?_
        refine mr_stP (y := kk) hx hb hK hC (by omega) rfl dX1_make_59 (fun H locs hC => ?_)
        refine lv_iconst (v := (nI 0)) hx hb dX1_make_60 (by decide +kernel) ?_
        refine lv_istore_n (lv' := [(3, .int (nI 0)), (2, .int (nI r)), (0, .ref (mg_h G)), (1, .int (nI kk))]) hx hb dX1_make_61 rfl hl (by decide) rfl (fun ls hl => ?_)
        have hC : mc_at G (mg_A G) s.heap (ms_uF (ms_sP (ms_sB (ms_st S 0) r 1) r kk) (mf_w (ms_F S) (32 * r) (fun _ => 0) 0)) H locs := by rw [mf_0]; exact hC
        have loop : ∀ (n : Nat) (i : Nat) (ls : Array Slot) (H : Heap) (locs : List Loc), i + n = kk → i ≤ kk → lv_has ls 4 [(3, .int (nI i)), (2, .int (nI r)), (0, .ref (mg_h G)), (1, .int (nI kk))] → mc_at G (mg_A G) s.heap (ms_uF (ms_sP (ms_sB (ms_st S 0) r 1) r kk) (mf_w (ms_F S) (32 * r) (fun _ => 0) i)) H locs → W p l e (headSpec wX1_make ({ frames := 1, cells := 0, slots := 0, locals := 32 })).room s m [.ref (mg_h G), .int (nI kk)].toArray below meth c H locs 0 0 (MQ below (va_Qi (fun (v : Int32) (S' : ms_T) => (ks_cnt (nI kk) = false ∧ v = nI 0 ∧ S' = ms_st S 1) ∨ (ks_cnt (nI kk) = true ∧ (∀ j, j < 40 → ms_B S j ≠ 0) ∧ v = nI 0 ∧ S' = ms_st S 2) ∨ ∃ r k, r < 40 ∧ k ≤ 32 ∧ (nI kk) = nI k ∧ ms_B S r = 0 ∧ (∀ j, j < r → ms_B S j ≠ 0) ∧ v = nI r ∧ S' = ms_uF (ms_sP (ms_sB (ms_st S 0) r 1) r k) (mf_w (ms_F S) (32 * r) (fun _ => 0) k)) (mc_q G) (mg_A G)) [.ref (mg_h G), .int (nI kk)].toArray s 0 0 (mg_A G)) (F0 m 62 ls []) := by
          intro n
          induction n with
          | zero =>
            intro i ls H locs hm hi hl hC
            refine lv_iload_n hx hb dX1_make_62 rfl (lv_at hl 0 rfl) ?_
            refine lv_iload_n hx hb dX1_make_63 rfl (lv_at hl 3 rfl) ?_
            refine wn_ge (tgt := 85) hx hb (by omega) (by omega) dX1_make_64 rfl (fun _ => ?_) (fun h9 => absurd h9 (by omega))
            refine lv_iload_n hx hb dX1_make_85 rfl (lv_at hl 1 rfl) ?_
            have e : i = kk := by omega
            exact mr_iret hx hb hr hlk hC (Or.inr (Or.inr ⟨r, kk, hr4, hk, rfl, hr0, hrm, rfl, by rw [e]⟩)) dX1_make_86
          | succ n ih =>
            intro i ls H locs hm hi hl hC
            refine lv_iload_n hx hb dX1_make_62 rfl (lv_at hl 0 rfl) ?_
            refine lv_iload_n hx hb dX1_make_63 rfl (lv_at hl 3 rfl) ?_
            refine wn_ge (tgt := 85) hx hb (by omega) (by omega) dX1_make_64 rfl (fun h9 => absurd h9 (by omega)) (fun _ => ?_)
            refine lv_aload_n hx hb dX1_make_67 rfl (lv_at hl 2 rfl) ?_
            refine mr_get hx hb hT mx_in hown hK hC 3 (by decide) (hT _ mw_373) rfl rfl dX1_make_68 ?_
            refine lv_bipush (v := (nI 32)) hx hb dX1_make_71 (by decide +kernel) ?_
            refine lv_iload_n hx hb dX1_make_73 rfl (lv_at hl 1 rfl) ?_
            refine wn_mul hx hb dX1_make_74 ?_
            refine lv_iload_n hx hb dX1_make_75 rfl (lv_at hl 0 rfl) ?_
            refine wn_add hx hb dX1_make_76 ?_
            refine lv_iconst (v := (-1)) hx hb dX1_make_77 (by decide +kernel) ?_
            refine mr_stF (y := 0) hx hb hK hC (by omega) rfl dX1_make_78 (fun H locs hC => ?_)
            have hC : mc_at G (mg_A G) s.heap (ms_uF (ms_sP (ms_sB (ms_st S 0) r 1) r kk) (mf_w (ms_F S) (32 * r) (fun _ => 0) (i + 1))) H locs := by rw [mf_s]; exact hC
            refine lv_iinc (lv' := [(3, .int (nI (i + 1))), (2, .int (nI r)), (0, .ref (mg_h G)), (1, .int (nI kk))]) (v := (nI (i + 1))) (k := 0) hx hb dX1_make_79 hl rfl (nI_1 _) (by decide) rfl (fun ls hl => ?_)
            refine lv_goto (tgt := 62) hx hb dX1_make_82 rfl ?_
            exact ih (i + 1) ls H locs (by omega) (by omega) hl hC
        exact loop kk 0 ls H locs (by omega) (by omega) hl hC
      · refine lv_iconst (v := (nI 2)) hx hb dX1_make_24 (by decide +kernel) ?_
        refine lv_goto (tgt := 29) hx hb dX1_make_25 rfl ?_
        refine mr_put (x := 2) hx hb hT mx_in hown hK hC (hT _ mw_370) dX1_make_29 (fun H locs hC => ?_)
        refine lv_aload_n hx hb dX1_make_32 rfl (lv_at hl 0 rfl) ?_
        refine mr_get (v := .int (nI 2)) hx hb hT mx_in hown hK hC 0 (by decide) (hT _ mw_370) rfl rfl dX1_make_33 ?_
        refine wn_ifle (tgt := 41) hx hb (by omega) dX1_make_36 rfl (fun h9 => absurd h9 (by omega)) (fun _ => ?_)
        refine lv_iconst (v := (nI 0)) hx hb dX1_make_39 (by decide +kernel) ?_
        exact mr_iret hx hb hr hlk hC (Or.inr (Or.inl ⟨hcn, fun j hj => hrm j (by omega), rfl, rfl⟩)) dX1_make_40
    · refine lv_iconst (v := (nI 1)) hx hb dX1_make_11 (by decide +kernel) ?_
      refine lv_goto (tgt := 29) hx hb dX1_make_12 rfl ?_
      refine mr_put (x := 1) hx hb hT mx_in hown hK hC (hT _ mw_370) dX1_make_29 (fun H locs hC => ?_)
      refine lv_aload_n hx hb dX1_make_32 rfl (lv_at hl 0 rfl) ?_
      refine mr_get (v := .int (nI 1)) hx hb hT mx_in hown hK hC 0 (by decide) (hT _ mw_370) rfl rfl dX1_make_33 ?_
      refine wn_ifle (tgt := 41) hx hb (by omega) dX1_make_36 rfl (fun h9 => absurd h9 (by omega)) (fun _ => ?_)
      refine lv_iconst (v := (nI 0)) hx hb dX1_make_39 (by decide +kernel) ?_
      exact mr_iret hx hb hr hlk hC (Or.inl ⟨by unfold ks_cnt; rw [decide_eq_true h1, decide_eq_false h2]; rfl, rfl, rfl⟩) dX1_make_40
set_option maxHeartbeats 4000000 in
set_option maxRecDepth 100000 in
/-- share(x, y, z) -/
theorem k1_share (l : Launch) (G : mg_T) (S : ms_T) (x y z : Int32) (hO : mv_ok S) : Met l yX1_share wX1_share ({ frames := 1, cells := 0, slots := 0, locals := 32 }) (va_Pc [.ref (mg_h G), .int x, .int y, .int z] (mc_p G S)) (va_Qi (fun (v : Int32) (S' : ms_T) => ((∀ j a b, ¬ mo_pgs S x y z j a b) ∧ v = nI 0 ∧ S' = ms_st S 1) ∨ ∃ j a b, mo_pgs S x y z j a b ∧ (((∀ i, i < 40 → ms_B S i ≠ 0) ∧ v = nI 0 ∧ S' = ms_st S 2) ∨ ∃ r, r < 40 ∧ ms_B S r = 0 ∧ (∀ i, i < r → ms_B S i ≠ 0) ∧ v = nI r ∧ S' = ms_uF (ms_sP (ms_sB (ms_st S 0) r 1) r b) (mf_w (ms_F S) (32 * r) (fun i => ms_F S (32 * j + (a + i))) b))) (mc_q G) (mg_A G)) 0 0 (mg_A G) := by
  refine Met.ofW (cc := cX1_share) (maxL := 6) (ret := (some .int)) (by decide) rfl ?_
  intro p e s m args below meth c s₁ B hml hv
  obtain ⟨rfl, hv⟩ := hv
  have hx := B.exec
  have hb := B.bytes
  have hr := B.returns
  have hlk := B.notSynchronized
  have hts := atoms_spec (ws := wX1_share) B.pre
  have hT : ∀ w ∈ nw_T, w.before _ s = true := fun w h => hts w (List.mem_cons_of_mem _ h)
  have hown : s.vm.findClass RX1 = some m.cls := findClass_of_methodNamed B.named
  have hK : mc_K G s := hv.2.2
  have hC := mc_start hv
  have hl := lv_entry ([.ref (mg_h G), .int x, .int y, .int z]) (n := 6) (Nat.le_of_ble_eq_true rfl)
  rw [lg_entry_eq]
  generalize (lg_sl ([.ref (mg_h G), .int x, .int y, .int z]) ++ List.replicate (6 - (lg_sl ([.ref (mg_h G), .int x, .int y, .int z])).length) Slot.unset).toArray = ls at hl ⊢
  have hl : lv_has ls 6 [(0, .ref (mg_h G)), (1, .int x), (2, .int y), (3, .int z)] := hl
  obtain ⟨r, hr9⟩ : ∃ r, r = ls_b (fun r => decide (ms_B S r = 0)) 40 := ⟨_, rfl⟩
  have hr40 : r ≤ 40 := by rw [hr9]; exact ls_le _ _
  have hrm : ∀ j, j < r → ms_B S j ≠ 0 := fun j hj => of_decide_eq_false (ls_no (q := (fun r => decide (ms_B S r = 0))) (n := 40) (by rw [← hr9]; exact hj))
  refine lv_aload_n hx hb dX1_share_0 rfl (lv_at hl 0 rfl) ?_
  refine lv_iload_n hx hb dX1_share_1 rfl (lv_at hl 1 rfl) ?_
  refine mr_ci (As := [.int x]) (rest := []) ⟨hx, hb, hml, hown, hts⟩ (k1_lacks l G S x hO) (cwV 1 hts gX1_30 rfl rfl rfl hX1_lacks ⟨Nat.le_of_ble_eq_true rfl, Nat.le_of_ble_eq_true rfl⟩) hK hC rfl hl.1 rfl (Nat.le_of_ble_eq_true rfl) dX1_share_2 ⟨Nat.zero_le _, Nat.zero_le _⟩ (fun v S1 H locs hp hC => ?_)
  obtain ⟨hno, rfl, hS1⟩ | ⟨jj, hjj, rfl, hS1⟩ := hp
  · skip
    rw [hS1] at hC
    have hC : mc_at G (mg_A G) s.heap (ms_st S 1) H locs := hC
    refine wn_if0 (tgt := 10) hx hb (by omega) dX1_share_5 rfl (fun h9 => absurd h9 (by omega)) (fun _ => ?_)
    refine lv_iconst (v := (nI 0)) hx hb dX1_share_8 (by decide +kernel) ?_
    exact mr_iret hx hb hr hlk hC (Or.inl ⟨fun j a b hm => hno j hm.1, rfl, rfl⟩) dX1_share_9
  · skip
    rw [hS1] at hC
    have hC : mc_at G (mg_A G) s.heap (ms_st S 0) H locs := hC
    refine wn_if0 (tgt := 10) hx hb (by omega) dX1_share_5 rfl (fun _ => ?_) (fun h9 => absurd h9 (by omega))
    obtain ⟨T, hT9⟩ : ∃ z, z = ms_st S 0 := ⟨_, rfl⟩
    rw [← hT9] at hC
    have hO9 : mv_ok T := by rw [hT9]; exact hO
    obtain ⟨hj4, rfl, hjB⟩ := hjj
    have hP1 := hO.2.1 jj hj4
    have ePT : ms_P T = ms_P S := by rw [hT9]; rfl
    refine lv_aload_n hx hb dX1_share_10 rfl (lv_at hl 0 rfl) ?_
    refine lv_iload_n hx hb dX1_share_11 rfl (lv_at hl 1 rfl) ?_
    refine lv_iload_n hx hb dX1_share_12 rfl (lv_at hl 2 rfl) ?_
    refine lv_iload_n hx hb dX1_share_13 rfl (lv_at hl 3 rfl) ?_
    refine mr_ci (As := [.int (nI jj), .int y, .int z]) (rest := []) ⟨hx, hb, hml, hown, hts⟩ (k1_none l G T jj hj4 y z hO9) (cwV 3 hts gX1_46 rfl rfl rfl hX1_none ⟨Nat.le_of_ble_eq_true rfl, Nat.le_of_ble_eq_true rfl⟩) hK hC rfl hl.1 rfl (Nat.le_of_ble_eq_true rfl) dX1_share_14 ⟨Nat.zero_le _, Nat.zero_le _⟩ (fun v S1 H locs hp hC => ?_)
    obtain ⟨hnn, rfl, hS1⟩ | ⟨aa, bb, rfl, rfl, hab, rfl, hS1⟩ := hp
    · skip
      rw [hS1] at hC
      refine wn_if0 (tgt := 26) hx hb (by omega) dX1_share_17 rfl (fun h9 => absurd h9 (by omega)) (fun _ => ?_)
      refine lv_aload_n hx hb dX1_share_20 rfl (lv_at hl 0 rfl) ?_
      refine lv_iconst (v := (nI 1)) hx hb dX1_share_21 (by decide +kernel) ?_
      rw [hT9] at hC
      refine mr_ci (As := [.int (nI 1)]) (rest := []) ⟨hx, hb, hml, hown, hts⟩ (k1_fail l G (ms_st S 0) 1) (cwV 1 hts gX1_50 rfl rfl rfl hX1_fail ⟨Nat.le_of_ble_eq_true rfl, Nat.le_of_ble_eq_true rfl⟩) hK hC rfl hl.1 rfl (Nat.le_of_ble_eq_true rfl) dX1_share_22 ⟨Nat.zero_le _, Nat.zero_le _⟩ (fun v S1 H locs hp hC => ?_)
      obtain ⟨rfl, hS1⟩ := hp
      rw [hS1] at hC
      have hC : mc_at G (mg_A G) s.heap (ms_st S 1) H locs := hC
      exact mr_iret hx hb hr hlk hC (Or.inl ⟨fun i a b hm => by
          have e0 := hm.1.1
          have e1 := (nI_eq (by omega) (by omega)).mp hm.1.2.1
          exact hnn a b ⟨hm.2.1, hm.2.2.1, by rw [ePT, e1]; exact hm.2.2.2⟩, rfl, rfl⟩) dX1_share_25
    · skip
      rw [hS1] at hC
      refine wn_if0 (tgt := 26) hx hb (by omega) dX1_share_17 rfl (fun _ => ?_) (fun h9 => absurd h9 (by omega))
      rw [hT9] at hC
      rw [ePT] at hab
      refine lv_aload_n hx hb dX1_share_26 rfl (lv_at hl 0 rfl) ?_
      refine mr_ci (As := []) (rest := []) ⟨hx, hb, hml, hown, hts⟩ (k1_row l G (ms_st S 0) hO) (cwV 0 hts gX1_42 rfl rfl rfl hX1_row ⟨Nat.le_of_ble_eq_true rfl, Nat.le_of_ble_eq_true rfl⟩) hK hC rfl hl.1 rfl (Nat.le_of_ble_eq_true rfl) dX1_share_27 ⟨Nat.zero_le _, Nat.zero_le _⟩ (fun v S1 H locs hp hC => ?_)
      obtain ⟨hv1, hS1⟩ := hp
      rw [hS1] at hC
      have hv1 : v = nI r := by rw [hr9]; exact hv1
      subst hv1
      refine lv_bipush (v := (nI 40)) hx hb dX1_share_30 (by decide +kernel) ?_
      refine wn_ne (tgt := 41) hx hb (by omega) (by omega) dX1_share_32 rfl (fun h3 => ?_) (fun h3 => ?_)
      · have hr4 : r < 40 := by omega
        have hr0 : ms_B S r = 0 := by
          have h := ls_yes (q := (fun r => decide (ms_B S r = 0))) (n := 40) (by rw [← hr9]; exact hr4)
          rw [← hr9] at h
          exact of_decide_eq_true h
        have hrj : r ≠ jj := fun e => hjB (by rw [← e]; exact hr0)
        refine lv_aload_n hx hb dX1_share_41 rfl (lv_at hl 0 rfl) ?_
        refine mr_ci (As := []) (rest := []) ⟨hx, hb, hml, hown, hts⟩ (k1_row l G (ms_st S 0) hO) (cwV 0 hts gX1_42 rfl rfl rfl hX1_row ⟨Nat.le_of_ble_eq_true rfl, Nat.le_of_ble_eq_true rfl⟩) hK hC rfl hl.1 rfl (Nat.le_of_ble_eq_true rfl) dX1_share_42 ⟨Nat.zero_le _, Nat.zero_le _⟩ (fun v S1 H locs hp hC => ?_)
        obtain ⟨hv1, hS1⟩ := hp
        rw [hS1] at hC
        have hv1 : v = nI r := by rw [hr9]; exact hv1
        subst hv1
        refine lv_istore (lv' := [(4, .int (nI r)), (0, .ref (mg_h G)), (1, .int (nI jj)), (2, .int (nI aa)), (3, .int (nI bb))]) hx hb dX1_share_45 hl (by decide) rfl (fun ls hl => ?_)
        refine lv_aload_n hx hb dX1_share_47 rfl (lv_at hl 1 rfl) ?_
        refine mr_get hx hb hT mx_in hown hK hC 1 (by decide) (hT _ mw_371) rfl rfl dX1_share_48 ?_
        refine lv_iload hx hb dX1_share_51 (lv_at hl 0 rfl) ?_
        refine lv_iconst (v := (nI 1)) hx hb dX1_share_53 (by decide +kernel) ?_
        refine mr_stB (y := 1) hx hb hK hC (by omega) (by decide +kernel) dX1_share_54 (fun H locs hC => ?_)
        refine lv_aload_n hx hb dX1_share_55 rfl (lv_at hl 1 rfl) ?_
        refine mr_get hx hb hT mx_in hown hK hC 2 (by decide) (hT _ mw_372) rfl rfl dX1_share_56 ?_
        refine lv_iload hx hb dX1_share_59 (lv_at hl 0 rfl) ?_
        refine lv_iload_n hx hb dX1_share_61 rfl (lv_at hl 4 rfl) ?_
        refine mr_stP (y := bb) hx hb hK hC (by omega) rfl dX1_share_62 (fun H locs hC => ?_)
        refine lv_iconst (v := (nI 0)) hx hb dX1_share_63 (by decide +kernel) ?_
        refine lv_istore (lv' := [(5, .int (nI 0)), (4, .int (nI r)), (0, .ref (mg_h G)), (1, .int (nI jj)), (2, .int (nI aa)), (3, .int (nI bb))]) hx hb dX1_share_64 hl (by decide) rfl (fun ls hl => ?_)
        have hC : mc_at G (mg_A G) s.heap (ms_uF (ms_sP (ms_sB (ms_st S 0) r 1) r bb) (mf_w (ms_F S) (32 * r) (fun i => ms_F S (32 * jj + (aa + i))) 0)) H locs := by rw [mf_0]; exact hC
        have loop : ∀ (n : Nat) (i : Nat) (ls : Array Slot) (H : Heap) (locs : List Loc), i + n = bb → i ≤ bb → lv_has ls 6 [(5, .int (nI i)), (4, .int (nI r)), (0, .ref (mg_h G)), (1, .int (nI jj)), (2, .int (nI aa)), (3, .int (nI bb))] → mc_at G (mg_A G) s.heap (ms_uF (ms_sP (ms_sB (ms_st S 0) r 1) r bb) (mf_w (ms_F S) (32 * r) (fun i => ms_F S (32 * jj + (aa + i))) i)) H locs → W p l e (headSpec wX1_share ({ frames := 1, cells := 0, slots := 0, locals := 32 })).room s m [.ref (mg_h G), .int (nI jj), .int (nI aa), .int (nI bb)].toArray below meth c H locs 0 0 (MQ below (va_Qi (fun (v : Int32) (S' : ms_T) => ((∀ j a b, ¬ mo_pgs S (nI jj) (nI aa) (nI bb) j a b) ∧ v = nI 0 ∧ S' = ms_st S 1) ∨ ∃ j a b, mo_pgs S (nI jj) (nI aa) (nI bb) j a b ∧ (((∀ i, i < 40 → ms_B S i ≠ 0) ∧ v = nI 0 ∧ S' = ms_st S 2) ∨ ∃ r, r < 40 ∧ ms_B S r = 0 ∧ (∀ i, i < r → ms_B S i ≠ 0) ∧ v = nI r ∧ S' = ms_uF (ms_sP (ms_sB (ms_st S 0) r 1) r b) (mf_w (ms_F S) (32 * r) (fun i => ms_F S (32 * j + (a + i))) b))) (mc_q G) (mg_A G)) [.ref (mg_h G), .int (nI jj), .int (nI aa), .int (nI bb)].toArray s 0 0 (mg_A G)) (F0 m 66 ls []) := by
          intro n
          induction n with
          | zero =>
            intro i ls H locs hm hi hl hC
            refine lv_iload hx hb dX1_share_66 (lv_at hl 0 rfl) ?_
            refine lv_iload_n hx hb dX1_share_68 rfl (lv_at hl 5 rfl) ?_
            refine wn_ge (tgt := 100) hx hb (by omega) (by omega) dX1_share_69 rfl (fun _ => ?_) (fun h9 => absurd h9 (by omega))
            refine lv_iload hx hb dX1_share_100 (lv_at hl 1 rfl) ?_
            have e : i = bb := by omega
            exact mr_iret hx hb hr hlk hC (Or.inr ⟨jj, aa, bb, ⟨⟨hj4, rfl, hjB⟩, rfl, rfl, hab⟩, Or.inr ⟨r, hr4, hr0, hrm, rfl, by rw [e]⟩⟩) dX1_share_102
          | succ n ih =>
            intro i ls H locs hm hi hl hC
            refine lv_iload hx hb dX1_share_66 (lv_at hl 0 rfl) ?_
            refine lv_iload_n hx hb dX1_share_68 rfl (lv_at hl 5 rfl) ?_
            refine wn_ge (tgt := 100) hx hb (by omega) (by omega) dX1_share_69 rfl (fun h9 => absurd h9 (by omega)) (fun _ => ?_)
            refine lv_aload_n hx hb dX1_share_72 rfl (lv_at hl 2 rfl) ?_
            refine mr_get hx hb hT mx_in hown hK hC 3 (by decide) (hT _ mw_373) rfl rfl dX1_share_73 ?_
            refine lv_bipush (v := (nI 32)) hx hb dX1_share_76 (by decide +kernel) ?_
            refine lv_iload hx hb dX1_share_78 (lv_at hl 1 rfl) ?_
            refine wn_mul hx hb dX1_share_80 ?_
            refine lv_iload hx hb dX1_share_81 (lv_at hl 0 rfl) ?_
            refine wn_add hx hb dX1_share_83 ?_
            refine lv_aload_n hx hb dX1_share_84 rfl (lv_at hl 2 rfl) ?_
            refine lv_iload_n hx hb dX1_share_85 rfl (lv_at hl 3 rfl) ?_
            refine lv_iload_n hx hb dX1_share_86 rfl (lv_at hl 4 rfl) ?_
            refine lv_iload hx hb dX1_share_87 (lv_at hl 0 rfl) ?_
            refine wn_add hx hb dX1_share_89 ?_
            refine mr_ci (As := [.int (nI jj), .int (nI (aa + i))]) (rest := [.int (nI ((32 * r) + i)), .ref (mg_a G 2)]) ⟨hx, hb, hml, hown, hts⟩ (k1_at l G (ms_uF (ms_sP (ms_sB (ms_st S 0) r 1) r bb) (mf_w (ms_F S) (32 * r) (fun i => ms_F S (32 * jj + (aa + i))) i)) jj (aa + i) (by omega) (by omega)) (cwV 2 hts gX1_34 rfl rfl rfl hX1_at ⟨Nat.le_of_ble_eq_true rfl, Nat.le_of_ble_eq_true rfl⟩) hK hC rfl hl.1 rfl (Nat.le_of_ble_eq_true rfl) dX1_share_90 ⟨Nat.zero_le _, Nat.zero_le _⟩ (fun v S1 H locs hp hC => ?_)
            obtain ⟨rfl, hS1⟩ := hp
            rw [hS1] at hC
            have eF : ms_F (ms_uF (ms_sP (ms_sB (ms_st S 0) r 1) r bb) (mf_w (ms_F S) (32 * r) (fun i => ms_F S (32 * jj + (aa + i))) i)) (32 * jj + (aa + i)) = ms_F S (32 * jj + (aa + i)) := by
              show mf_w (ms_F S) (32 * r) (fun i => ms_F S (32 * jj + (aa + i))) i (32 * jj + (aa + i)) = ms_F S (32 * jj + (aa + i))
              exact mf_out _ _ (by omega)
            rw [eF]
            refine mr_stF (y := (ms_F S (32 * jj + (aa + i)))) hx hb hK hC (by omega) rfl dX1_share_93 (fun H locs hC => ?_)
            have hC : mc_at G (mg_A G) s.heap (ms_uF (ms_sP (ms_sB (ms_st S 0) r 1) r bb) (mf_w (ms_F S) (32 * r) (fun i => ms_F S (32 * jj + (aa + i))) (i + 1))) H locs := by rw [mf_s]; exact hC
            refine lv_iinc (lv' := [(5, .int (nI (i + 1))), (4, .int (nI r)), (0, .ref (mg_h G)), (1, .int (nI jj)), (2, .int (nI aa)), (3, .int (nI bb))]) (v := (nI (i + 1))) (k := 0) hx hb dX1_share_94 hl rfl (nI_1 _) (by decide) rfl (fun ls hl => ?_)
            refine lv_goto (tgt := 66) hx hb dX1_share_97 rfl ?_
            exact ih (i + 1) ls H locs (by omega) (by omega) hl hC
        exact loop bb 0 ls H locs (by omega) (by omega) hl hC
      · refine lv_aload_n hx hb dX1_share_35 rfl (lv_at hl 0 rfl) ?_
        refine lv_iconst (v := (nI 2)) hx hb dX1_share_36 (by decide +kernel) ?_
        refine mr_ci (As := [.int (nI 2)]) (rest := []) ⟨hx, hb, hml, hown, hts⟩ (k1_fail l G (ms_st S 0) 2) (cwV 1 hts gX1_50 rfl rfl rfl hX1_fail ⟨Nat.le_of_ble_eq_true rfl, Nat.le_of_ble_eq_true rfl⟩) hK hC rfl hl.1 rfl (Nat.le_of_ble_eq_true rfl) dX1_share_37 ⟨Nat.zero_le _, Nat.zero_le _⟩ (fun v S1 H locs hp hC => ?_)
        obtain ⟨rfl, hS1⟩ := hp
        rw [hS1] at hC
        have hC : mc_at G (mg_A G) s.heap (ms_st S 2) H locs := hC
        exact mr_iret hx hb hr hlk hC (Or.inr ⟨jj, aa, bb, ⟨⟨hj4, rfl, hjB⟩, rfl, rfl, hab⟩, Or.inl ⟨fun i hi => hrm i (by omega), rfl, rfl⟩⟩) dX1_share_40
set_option maxHeartbeats 4000000 in
set_option maxRecDepth 100000 in
/-- drop(x) -/
theorem k1_drop (l : Launch) (G : mg_T) (S : ms_T) (x : Int32) (hO : mv_ok S) : Met l yX1_drop wX1_drop ({ frames := 3, cells := 0, slots := 0, locals := 96 }) (va_Pc [.ref (mg_h G), .int x] (mc_p G S)) (va_Qi (fun (v : Int32) (S' : ms_T) => ((∀ j, ¬ mo_row S x j) ∧ v = nI 0 ∧ S' = ms_st S 1) ∨ ∃ j, mo_row S x j ∧ v = nI (nz_f (cn_f (mv_F (ms_st S 0)))) - nI (nz_f (cn_f (mv_F (ms_sB (ms_st S 0) j 0)))) ∧ S' = ms_sB (ms_st S 0) j 0) (mc_q G) (mg_A G)) 0 0 (mg_A G) := by
  refine Met.ofW (cc := cX1_drop) (maxL := 3) (ret := (some .int)) (by decide) rfl ?_
  intro p e s m args below meth c s₁ B hml hv
  obtain ⟨rfl, hv⟩ := hv
  have hx := B.exec
  have hb := B.bytes
  have hr := B.returns
  have hlk := B.notSynchronized
  have hts := atoms_spec (ws := wX1_drop) B.pre
  have hT : ∀ w ∈ nw_T, w.before _ s = true := fun w h => hts w (List.mem_cons_of_mem _ h)
  have hown : s.vm.findClass RX1 = some m.cls := findClass_of_methodNamed B.named
  have hK : mc_K G s := hv.2.2
  have hC := mc_start hv
  have hl := lv_entry ([.ref (mg_h G), .int x]) (n := 3) (Nat.le_of_ble_eq_true rfl)
  rw [lg_entry_eq]
  generalize (lg_sl ([.ref (mg_h G), .int x]) ++ List.replicate (3 - (lg_sl ([.ref (mg_h G), .int x])).length) Slot.unset).toArray = ls at hl ⊢
  have hl : lv_has ls 3 [(0, .ref (mg_h G)), (1, .int x)] := hl
  refine lv_aload_n hx hb dX1_drop_0 rfl (lv_at hl 0 rfl) ?_
  refine lv_iload_n hx hb dX1_drop_1 rfl (lv_at hl 1 rfl) ?_
  refine mr_ci (As := [.int x]) (rest := []) ⟨hx, hb, hml, hown, hts⟩ (k1_lacks l G S x hO) (cwV 1 hts gX1_30 rfl rfl rfl hX1_lacks ⟨Nat.le_of_ble_eq_true rfl, Nat.le_of_ble_eq_true rfl⟩) hK hC rfl hl.1 rfl (Nat.le_of_ble_eq_true rfl) dX1_drop_2 ⟨Nat.zero_le _, Nat.zero_le _⟩ (fun v S1 H locs hp hC => ?_)
  obtain ⟨hno, rfl, hS1⟩ | ⟨jj, hjj, rfl, hS1⟩ := hp
  · skip
    rw [hS1] at hC
    have hC : mc_at G (mg_A G) s.heap (ms_st S 1) H locs := hC
    refine wn_if0 (tgt := 10) hx hb (by omega) dX1_drop_5 rfl (fun h9 => absurd h9 (by omega)) (fun _ => ?_)
    refine lv_iconst (v := (nI 0)) hx hb dX1_drop_8 (by decide +kernel) ?_
    exact mr_iret hx hb hr hlk hC (Or.inl ⟨hno, rfl, rfl⟩) dX1_drop_9
  · skip
    rw [hS1] at hC
    have hC : mc_at G (mg_A G) s.heap (ms_st S 0) H locs := hC
    refine wn_if0 (tgt := 10) hx hb (by omega) dX1_drop_5 rfl (fun _ => ?_) (fun h9 => absurd h9 (by omega))
    obtain ⟨hj4, rfl, hjB⟩ := hjj
    refine lv_aload_n hx hb dX1_drop_10 rfl (lv_at hl 0 rfl) ?_
    refine mr_ci (As := []) (rest := []) ⟨hx, hb, hml, hown, hts⟩ (k1_frames l G (ms_st S 0) hO) (cwV 0 hts gX1_53 rfl rfl rfl hX1_frames ⟨Nat.le_of_ble_eq_true rfl, Nat.le_of_ble_eq_true rfl⟩) hK hC rfl hl.1 rfl (Nat.le_of_ble_eq_true rfl) dX1_drop_11 ⟨Nat.zero_le _, Nat.zero_le _⟩ (fun v S1 H locs hp hC => ?_)
    obtain ⟨rfl, hS1⟩ := hp
    rw [hS1] at hC
    refine lv_istore_n (lv' := [(2, .int (nI (nz_f (cn_f (mv_F (ms_st S 0)))))), (0, .ref (mg_h G)), (1, .int (nI jj))]) hx hb dX1_drop_14 rfl hl (by decide) rfl (fun ls hl => ?_)
    refine lv_aload_n hx hb dX1_drop_15 rfl (lv_at hl 1 rfl) ?_
    refine mr_get hx hb hT mx_in hown hK hC 1 (by decide) (hT _ mw_371) rfl rfl dX1_drop_16 ?_
    refine lv_iload_n hx hb dX1_drop_19 rfl (lv_at hl 2 rfl) ?_
    refine lv_iconst (v := (nI 0)) hx hb dX1_drop_20 (by decide +kernel) ?_
    refine mr_stB (y := 0) hx hb hK hC (by omega) (by decide +kernel) dX1_drop_21 (fun H locs hC => ?_)
    refine lv_iload_n hx hb dX1_drop_22 rfl (lv_at hl 0 rfl) ?_
    refine lv_aload_n hx hb dX1_drop_23 rfl (lv_at hl 1 rfl) ?_
    have hO9 : mv_ok (ms_sB (ms_st S 0) jj 0) := ⟨fun r hr => by
        show ks_uN (ms_B S) jj 0 r ≤ 1
        unfold ks_uN
        by_cases e : r = jj
        · rw [if_pos e]; omega
        · rw [if_neg e]; exact hO.1 r hr, hO.2⟩
    refine mr_ci (As := []) (rest := [.int (nI (nz_f (cn_f (mv_F (ms_st S 0)))))]) ⟨hx, hb, hml, hown, hts⟩ (k1_frames l G (ms_sB (ms_st S 0) jj 0) hO9) (cwV 0 hts gX1_53 rfl rfl rfl hX1_frames ⟨Nat.le_of_ble_eq_true rfl, Nat.le_of_ble_eq_true rfl⟩) hK hC rfl hl.1 rfl (Nat.le_of_ble_eq_true rfl) dX1_drop_24 ⟨Nat.zero_le _, Nat.zero_le _⟩ (fun v S1 H locs hp hC => ?_)
    obtain ⟨rfl, hS1⟩ := hp
    rw [hS1] at hC
    refine lv_isub hx hb dX1_drop_27 ?_
    exact mr_iret hx hb hr hlk hC (Or.inr ⟨jj, ⟨hj4, rfl, hjB⟩, rfl, rfl⟩) dX1_drop_28
set_option maxHeartbeats 4000000 in
set_option maxRecDepth 100000 in
/-- alone(r, k) -/
theorem k1_alone (l : Launch) (G : mg_T) (S : ms_T) (r k : Nat) (h40 : r < 40) (hB : ms_B S r ≠ 0) (hk : k < ms_P S r) (hO : mv_ok S) : Met l yX1_alone wX1_alone ({ frames := 3, cells := 0, slots := 0, locals := 96 }) (va_Pc [.ref (mg_h G), .int (nI r), .int (nI k)] (mc_p G S)) (va_Qi (fun (v : Int32) (S' : ms_T) => (ms_al S (ms_F S (32 * r + k)) ∧ v = nI 1 ∧ S' = S) ∨ (¬ ms_al S (ms_F S (32 * r + k)) ∧ (∀ f, f < 200 → cn_f (mv_F S) (f + 1) ≠ 0) ∧ v = nI 0 ∧ S' = S) ∨ (¬ ms_al S (ms_F S (32 * r + k)) ∧ ∃ f, f < 200 ∧ cn_f (mv_F S) (f + 1) = 0 ∧ (∀ i, i < f → cn_f (mv_F S) (i + 1) ≠ 0) ∧ v = nI 1 ∧ S' = ms_nf S (32 * r + k) f)) (mc_q G) (mg_A G)) 0 0 (mg_A G) := by
  refine Met.ofW (cc := cX1_alone) (maxL := 6) (ret := (some .boolean)) (by decide) rfl ?_
  intro p e s m args below meth c s₁ B hml hv
  obtain ⟨rfl, hv⟩ := hv
  have hx := B.exec
  have hb := B.bytes
  have hr := B.returns
  have hlk := B.notSynchronized
  have hts := atoms_spec (ws := wX1_alone) B.pre
  have hT : ∀ w ∈ nw_T, w.before _ s = true := fun w h => hts w (List.mem_cons_of_mem _ h)
  have hown : s.vm.findClass RX1 = some m.cls := findClass_of_methodNamed B.named
  have hK : mc_K G s := hv.2.2
  have hC := mc_start hv
  have hl := lv_entry ([.ref (mg_h G), .int (nI r), .int (nI k)]) (n := 6) (Nat.le_of_ble_eq_true rfl)
  rw [lg_entry_eq]
  generalize (lg_sl ([.ref (mg_h G), .int (nI r), .int (nI k)]) ++ List.replicate (6 - (lg_sl ([.ref (mg_h G), .int (nI r), .int (nI k)])).length) Slot.unset).toArray = ls at hl ⊢
  have hl : lv_has ls 6 [(0, .ref (mg_h G)), (1, .int (nI r)), (2, .int (nI k))] := hl
  have hP1 := hO.2.1 r h40
  have hF := hO.2.2 (32 * r + k) (by omega)
  obtain ⟨g, hg⟩ : ∃ z, z = ms_F S (32 * r + k) := ⟨_, rfl⟩
  rw [← hg] at hF
  have hcg : g ≠ 0 → 0 < cn_f (mv_F S) g := fun h0 => cn_f_pos.mpr ⟨r, k, h40, by omega, by rw [mv_F1 hB hk, hg]⟩
  have hgo : ∀ (ls : Array Slot) (H : Heap) (locs : List Loc), ¬ ms_al S g → lv_has ls 6 [(3, .int (ks_e g)), (0, .ref (mg_h G)), (1, .int (nI r)), (2, .int (nI k))] → mc_at G (mg_A G) s.heap S H locs → W p l e (headSpec wX1_alone ({ frames := 3, cells := 0, slots := 0, locals := 96 })).room s m [.ref (mg_h G), .int (nI r), .int (nI k)].toArray below meth c H locs 0 0 (MQ below (va_Qi (fun (v : Int32) (S' : ms_T) => (ms_al S (ms_F S (32 * r + k)) ∧ v = nI 1 ∧ S' = S) ∨ (¬ ms_al S (ms_F S (32 * r + k)) ∧ (∀ f, f < 200 → cn_f (mv_F S) (f + 1) ≠ 0) ∧ v = nI 0 ∧ S' = S) ∨ (¬ ms_al S (ms_F S (32 * r + k)) ∧ ∃ f, f < 200 ∧ cn_f (mv_F S) (f + 1) = 0 ∧ (∀ i, i < f → cn_f (mv_F S) (i + 1) ≠ 0) ∧ v = nI 1 ∧ S' = ms_nf S (32 * r + k) f)) (mc_q G) (mg_A G)) [.ref (mg_h G), .int (nI r), .int (nI k)].toArray s 0 0 (mg_A G)) (F0 m 23 ls []) := by
    intro ls H locs hna hl hC
    obtain ⟨f, hf9⟩ : ∃ z, z = ls_b (fun f => decide (cn_f (mv_F S) (f + 1) = 0)) 200 := ⟨_, rfl⟩
    have hf200 : f ≤ 200 := by rw [hf9]; exact ls_le _ _
    have hfm : ∀ j, j < f → cn_f (mv_F S) (j + 1) ≠ 0 := fun j hj => of_decide_eq_false (ls_no (q := (fun f => decide (cn_f (mv_F S) (f + 1) = 0))) (n := 200) (by rw [← hf9]; exact hj))
    refine lv_aload_n hx hb dX1_alone_23 rfl (lv_at hl 1 rfl) ?_
    refine mr_ci (As := []) (rest := []) ⟨hx, hb, hml, hown, hts⟩ (k1_free l G S hO) (cwV 0 hts gX1_56 rfl rfl rfl hX1_free ⟨Nat.le_of_ble_eq_true rfl, Nat.le_of_ble_eq_true rfl⟩) hK hC rfl hl.1 rfl (Nat.le_of_ble_eq_true rfl) dX1_alone_24 ⟨Nat.zero_le _, Nat.zero_le _⟩ (fun v S1 H locs hp hC => ?_)
    obtain ⟨hv1, hS1⟩ := hp
    rw [hS1] at hC
    rw [← hf9] at hv1
    subst hv1
    refine lv_istore (lv' := [(4, .int (nI f)), (3, .int (ks_e g)), (0, .ref (mg_h G)), (1, .int (nI r)), (2, .int (nI k))]) hx hb dX1_alone_27 hl (by decide) rfl (fun ls hl => ?_)
    refine lv_iload hx hb dX1_alone_29 (lv_at hl 0 rfl) ?_
    refine lv_sipush (v := (nI 200)) hx hb dX1_alone_31 (by decide +kernel) ?_
    refine wn_ne (tgt := 39) hx hb (by omega) (by omega) dX1_alone_34 rfl (fun h3 => ?_) (fun h3 => ?_)
    · have hf4 : f < 200 := by omega
      have hf0 : cn_f (mv_F S) (f + 1) = 0 := by
        have h := ls_yes (q := (fun f => decide (cn_f (mv_F S) (f + 1) = 0))) (n := 200) (by rw [← hf9]; exact hf4)
        rw [← hf9] at h
        exact of_decide_eq_true h
      have hfg : g ≠ f + 1 := fun e => by
        have h5 := hcg (by omega)
        rw [e] at h5
        omega
      refine lv_iconst (v := (nI 0)) hx hb dX1_alone_39 (by decide +kernel) ?_
      refine lv_istore (lv' := [(5, .int (nI 0)), (4, .int (nI f)), (3, .int (ks_e g)), (0, .ref (mg_h G)), (1, .int (nI r)), (2, .int (nI k))]) hx hb dX1_alone_40 hl (by decide) rfl (fun ls hl => ?_)
      have hC : mc_at G (mg_A G) s.heap (ms_uC S (mf_w (ms_C S) (8 * f) (ms_c S g) 0)) H locs := by rw [mf_0]; exact hC
      have loop : ∀ (n : Nat) (i : Nat) (ls : Array Slot) (H : Heap) (locs : List Loc), i + n = 8 → i ≤ 8 → lv_has ls 6 [(5, .int (nI i)), (4, .int (nI f)), (3, .int (ks_e g)), (0, .ref (mg_h G)), (1, .int (nI r)), (2, .int (nI k))] → mc_at G (mg_A G) s.heap (ms_uC S (mf_w (ms_C S) (8 * f) (ms_c S g) i)) H locs → W p l e (headSpec wX1_alone ({ frames := 3, cells := 0, slots := 0, locals := 96 })).room s m [.ref (mg_h G), .int (nI r), .int (nI k)].toArray below meth c H locs 0 0 (MQ below (va_Qi (fun (v : Int32) (S' : ms_T) => (ms_al S (ms_F S (32 * r + k)) ∧ v = nI 1 ∧ S' = S) ∨ (¬ ms_al S (ms_F S (32 * r + k)) ∧ (∀ f, f < 200 → cn_f (mv_F S) (f + 1) ≠ 0) ∧ v = nI 0 ∧ S' = S) ∨ (¬ ms_al S (ms_F S (32 * r + k)) ∧ ∃ f, f < 200 ∧ cn_f (mv_F S) (f + 1) = 0 ∧ (∀ i, i < f → cn_f (mv_F S) (i + 1) ≠ 0) ∧ v = nI 1 ∧ S' = ms_nf S (32 * r + k) f)) (mc_q G) (mg_A G)) [.ref (mg_h G), .int (nI r), .int (nI k)].toArray s 0 0 (mg_A G)) (F0 m 42 ls []) := by
        intro n
        induction n with
        | zero =>
          intro i ls H locs hm hi hl hC
          refine lv_iload hx hb dX1_alone_42 (lv_at hl 0 rfl) ?_
          refine lv_bipush (v := (nI 8)) hx hb dX1_alone_44 (by decide +kernel) ?_
          refine wn_ge (tgt := 89) hx hb (by omega) (by omega) dX1_alone_46 rfl (fun _ => ?_) (fun h9 => absurd h9 (by omega))
          obtain rfl : i = 8 := by omega
          refine lv_aload_n hx hb dX1_alone_89 rfl (lv_at hl 3 rfl) ?_
          refine mr_get hx hb hT mx_in hown hK hC 3 (by decide) (hT _ mw_373) rfl rfl dX1_alone_90 ?_
          refine lv_bipush (v := (nI 32)) hx hb dX1_alone_93 (by decide +kernel) ?_
          refine lv_iload_n hx hb dX1_alone_95 rfl (lv_at hl 4 rfl) ?_
          refine wn_mul hx hb dX1_alone_96 ?_
          refine lv_iload_n hx hb dX1_alone_97 rfl (lv_at hl 5 rfl) ?_
          refine wn_add hx hb dX1_alone_98 ?_
          refine lv_iload hx hb dX1_alone_99 (lv_at hl 1 rfl) ?_
          refine mr_stF (y := (f + 1)) hx hb hK hC (by omega) (ks_e1 f).symm dX1_alone_101 (fun H locs hC => ?_)
          refine lv_iconst (v := (nI 1)) hx hb dX1_alone_102 (by decide +kernel) ?_
          rw [hg] at hna hC
          have hC : mc_at G (mg_A G) s.heap (ms_nf S (32 * r + k) f) H locs := hC
          exact mr_zret hx hb hr hlk hC (by decide +kernel) (Or.inr (Or.inr ⟨hna, f, hf4, hf0, hfm, rfl, rfl⟩)) dX1_alone_103
        | succ n ih =>
          intro i ls H locs hm hi hl hC
          refine lv_iload hx hb dX1_alone_42 (lv_at hl 0 rfl) ?_
          refine lv_bipush (v := (nI 8)) hx hb dX1_alone_44 (by decide +kernel) ?_
          refine wn_ge (tgt := 89) hx hb (by omega) (by omega) dX1_alone_46 rfl (fun h9 => absurd h9 (by omega)) (fun _ => ?_)
          refine lv_aload_n hx hb dX1_alone_49 rfl (lv_at hl 3 rfl) ?_
          refine mr_get hx hb hT mx_in hown hK hC 4 (by decide) (hT _ mw_374) rfl rfl dX1_alone_50 ?_
          refine lv_bipush (v := (nI 8)) hx hb dX1_alone_53 (by decide +kernel) ?_
          refine lv_iload hx hb dX1_alone_55 (lv_at hl 1 rfl) ?_
          refine wn_mul hx hb dX1_alone_57 ?_
          refine lv_iload hx hb dX1_alone_58 (lv_at hl 0 rfl) ?_
          refine wn_add hx hb dX1_alone_60 ?_
          refine lv_iload_n hx hb dX1_alone_61 rfl (lv_at hl 2 rfl) ?_
          refine lv_iconst (v := (-1)) hx hb dX1_alone_62 (by decide +kernel) ?_
          by_cases hb0 : g = 0
          · skip
            have e8 : ks_e g = -1 := by rw [hb0]; rfl
            have ec : ms_c S g i = nI 0 := by unfold ms_c; rw [if_pos hb0]; rfl
            refine lv_icmp_ne (tgt := 70) hx hb dX1_alone_63 rfl (fun h9 => absurd e8 h9) (fun _ => ?_)
            refine lv_iconst (v := (nI 0)) hx hb dX1_alone_66 (by decide +kernel) ?_
            refine lv_goto (tgt := 82) hx hb dX1_alone_67 rfl ?_
            refine mr_stC hx hb hK hC (by omega) dX1_alone_82 (fun H locs hC => ?_)
            have hC : mc_at G (mg_A G) s.heap (ms_uC S (mf_w (ms_C S) (8 * f) (ms_c S g) (i + 1))) H locs := by rw [mf_c, ec]; exact hC
            refine lv_iinc (lv' := [(5, .int (nI (i + 1))), (4, .int (nI f)), (3, .int (ks_e g)), (0, .ref (mg_h G)), (1, .int (nI r)), (2, .int (nI k))]) (v := (nI (i + 1))) (k := 0) hx hb dX1_alone_83 hl rfl (nI_1 _) (by decide) rfl (fun ls hl => ?_)
            refine lv_goto (tgt := 42) hx hb dX1_alone_86 rfl ?_
            exact ih (i + 1) ls H locs (by omega) (by omega) hl hC
          · skip
            have e8 : ¬ ks_e g = -1 := fun e => hb0 ((ks_eN (by omega)).mp e)
            refine lv_icmp_ne (tgt := 70) hx hb dX1_alone_63 rfl (fun _ => ?_) (fun h9 => absurd h9 e8)
            refine lv_aload_n hx hb dX1_alone_70 rfl (lv_at hl 3 rfl) ?_
            refine mr_get hx hb hT mx_in hown hK hC 4 (by decide) (hT _ mw_374) rfl rfl dX1_alone_71 ?_
            refine lv_bipush (v := (nI 8)) hx hb dX1_alone_74 (by decide +kernel) ?_
            refine lv_iload_n hx hb dX1_alone_76 rfl (lv_at hl 2 rfl) ?_
            rw [ks_es hb0]
            refine wn_mul hx hb dX1_alone_77 ?_
            refine lv_iload hx hb dX1_alone_78 (lv_at hl 0 rfl) ?_
            refine wn_add hx hb dX1_alone_80 ?_
            refine mr_ldC hx hb hK hC (by omega) dX1_alone_81 ?_
            have ec : ms_c S g i = ms_C (ms_uC S (mf_w (ms_C S) (8 * f) (ms_c S g) i)) (8 * (g - 1) + i) := by
              unfold ms_c
              rw [if_neg hb0]
              show ms_C S (8 * (g - 1) + i) = mf_w (ms_C S) (8 * f) (ms_c S g) i (8 * (g - 1) + i)
              exact (mf_out _ _ (by omega)).symm
            refine mr_stC hx hb hK hC (by omega) dX1_alone_82 (fun H locs hC => ?_)
            have hC : mc_at G (mg_A G) s.heap (ms_uC S (mf_w (ms_C S) (8 * f) (ms_c S g) (i + 1))) H locs := by rw [mf_c, ec]; exact hC
            refine lv_iinc (lv' := [(5, .int (nI (i + 1))), (4, .int (nI f)), (3, .int (ks_e g)), (0, .ref (mg_h G)), (1, .int (nI r)), (2, .int (nI k))]) (v := (nI (i + 1))) (k := 0) hx hb dX1_alone_83 hl rfl (nI_1 _) (by decide) rfl (fun ls hl => ?_)
            refine lv_goto (tgt := 42) hx hb dX1_alone_86 rfl ?_
            exact ih (i + 1) ls H locs (by omega) (by omega) hl hC
      exact loop 8 0 ls H locs (by omega) (by omega) hl hC
    · refine lv_iconst (v := (nI 0)) hx hb dX1_alone_37 (by decide +kernel) ?_
      rw [hg] at hna
      exact mr_zret hx hb hr hlk hC (by decide +kernel) (Or.inr (Or.inl ⟨hna, fun i hi => hfm i (by omega), rfl, rfl⟩)) dX1_alone_38
  refine lv_aload_n hx hb dX1_alone_0 rfl (lv_at hl 0 rfl) ?_
  refine lv_iload_n hx hb dX1_alone_1 rfl (lv_at hl 1 rfl) ?_
  refine lv_iload_n hx hb dX1_alone_2 rfl (lv_at hl 2 rfl) ?_
  have eg : ks_e (ms_F S (32 * r + k)) = ks_e g := by rw [hg]
  refine mr_ci (As := [.int (nI r), .int (nI k)]) (rest := []) ⟨hx, hb, hml, hown, hts⟩ (k1_at l G S r k (by omega) (by omega)) (cwV 2 hts gX1_34 rfl rfl rfl hX1_at ⟨Nat.le_of_ble_eq_true rfl, Nat.le_of_ble_eq_true rfl⟩) hK hC rfl hl.1 rfl (Nat.le_of_ble_eq_true rfl) dX1_alone_3 ⟨Nat.zero_le _, Nat.zero_le _⟩ (fun v S1 H locs hp hC => ?_)
  obtain ⟨rfl, hS1⟩ := hp
  rw [hS1] at hC
  rw [eg]
  refine lv_istore_n (lv' := [(3, .int (ks_e g)), (0, .ref (mg_h G)), (1, .int (nI r)), (2, .int (nI k))]) hx hb dX1_alone_6 rfl hl (by decide) rfl (fun ls hl => ?_)
  refine lv_iload_n hx hb dX1_alone_7 rfl (lv_at hl 0 rfl) ?_
  refine lv_iconst (v := (-1)) hx hb dX1_alone_8 (by decide +kernel) ?_
  refine lv_icmp_eq (tgt := 23) hx hb dX1_alone_9 rfl (fun h1 => ?_) (fun h1 => ?_)
  · exact hgo ls H locs (fun h => h.1 ((ks_eN (by omega)).mp h1)) hl hC
  · have h0 : g ≠ 0 := fun e => h1 (by rw [e]; rfl)
    refine lv_aload_n hx hb dX1_alone_12 rfl (lv_at hl 1 rfl) ?_
    refine lv_iload_n hx hb dX1_alone_13 rfl (lv_at hl 0 rfl) ?_
    refine mr_ci (As := [.int (ks_e g)]) (rest := []) ⟨hx, hb, hml, hown, hts⟩ (k1_holdersOf l G S g (by omega) (by omega) hO) (cwV 1 hts gX1_38 rfl rfl rfl hX1_holdersOf ⟨Nat.le_of_ble_eq_true rfl, Nat.le_of_ble_eq_true rfl⟩) hK hC rfl hl.1 rfl (Nat.le_of_ble_eq_true rfl) dX1_alone_14 ⟨Nat.zero_le _, Nat.zero_le _⟩ (fun v S1 H locs hp hC => ?_)
    obtain ⟨rfl, hS1⟩ := hp
    rw [hS1] at hC
    have hb9 := cn_f_b (F := mv_F S) (f := g)
    refine lv_iconst (v := (nI 1)) hx hb dX1_alone_17 (by decide +kernel) ?_
    refine wn_ne (tgt := 23) hx hb (by omega) (by omega) dX1_alone_18 rfl (fun h2 => ?_) (fun h2 => ?_)
    · exact hgo ls H locs (fun h => h2 h.2) hl hC
    · rw [hg] at h0 h2
      refine lv_iconst (v := (nI 1)) hx hb dX1_alone_21 (by decide +kernel) ?_
      exact mr_zret hx hb hr hlk hC (by decide +kernel) (Or.inl ⟨⟨h0, h2⟩, rfl, rfl⟩) dX1_alone_22
set_option maxHeartbeats 4000000 in
set_option maxRecDepth 100000 in
/-- write(x, y, z, v0) -/
theorem k1_write (l : Launch) (G : mg_T) (S : ms_T) (x y z v0 : Int32) (hO : mv_ok S) : Met l yX1_write wX1_write ({ frames := 4, cells := 0, slots := 0, locals := 128 }) (va_Pc [.ref (mg_h G), .int x, .int y, .int z, .int v0] (mc_p G S)) (va_Qi (fun (v : Int32) (S' : ms_T) => ((∀ j a, ¬ mo_pg S x y j a) ∧ v = nI 0 ∧ S' = ms_st S 1) ∨ ∃ j a, mo_pg S x y j a ∧ ((ks_cell z = false ∧ v = nI 0 ∧ S' = ms_st S 1) ∨ ∃ k, k < 8 ∧ z = nI k ∧ (((ms_F (ms_st S 0) (32 * j + a)) = 0 ∧ v0 = 0 ∧ v = ms_c (ms_st S 0) (ms_F (ms_st S 0) (32 * j + a)) k ∧ S' = ms_st S 0) ∨ (¬ ((ms_F (ms_st S 0) (32 * j + a)) = 0 ∧ v0 = 0) ∧ ms_al (ms_st S 0) (ms_F (ms_st S 0) (32 * j + a)) ∧ v = ms_c (ms_st S 0) (ms_F (ms_st S 0) (32 * j + a)) k ∧ S' = ms_sC (ms_st S 0) (8 * ((ms_F (ms_st S 0) (32 * j + a)) - 1) + k) v0) ∨ (¬ ((ms_F (ms_st S 0) (32 * j + a)) = 0 ∧ v0 = 0) ∧ ¬ ms_al (ms_st S 0) (ms_F (ms_st S 0) (32 * j + a)) ∧ (∀ f, f < 200 → cn_f (mv_F (ms_st S 0)) (f + 1) ≠ 0) ∧ v = nI 0 ∧ S' = ms_st S 2) ∨ (¬ ((ms_F (ms_st S 0) (32 * j + a)) = 0 ∧ v0 = 0) ∧ ¬ ms_al (ms_st S 0) (ms_F (ms_st S 0) (32 * j + a)) ∧ ∃ f, f < 200 ∧ cn_f (mv_F (ms_st S 0)) (f + 1) = 0 ∧ (∀ i, i < f → cn_f (mv_F (ms_st S 0)) (i + 1) ≠ 0) ∧ v = ms_c (ms_st S 0) (ms_F (ms_st S 0) (32 * j + a)) k ∧ S' = ms_sC (ms_nf (ms_st S 0) (32 * j + a) f) (8 * f + k) v0)))) (mc_q G) (mg_A G)) 0 0 (mg_A G) := by
  refine Met.ofW (cc := cX1_write) (maxL := 6) (ret := (some .int)) (by decide) rfl ?_
  intro p e s m args below meth c s₁ B hml hv
  obtain ⟨rfl, hv⟩ := hv
  have hx := B.exec
  have hb := B.bytes
  have hr := B.returns
  have hlk := B.notSynchronized
  have hts := atoms_spec (ws := wX1_write) B.pre
  have hT : ∀ w ∈ nw_T, w.before _ s = true := fun w h => hts w (List.mem_cons_of_mem _ h)
  have hown : s.vm.findClass RX1 = some m.cls := findClass_of_methodNamed B.named
  have hK : mc_K G s := hv.2.2
  have hC := mc_start hv
  have hl := lv_entry ([.ref (mg_h G), .int x, .int y, .int z, .int v0]) (n := 6) (Nat.le_of_ble_eq_true rfl)
  rw [lg_entry_eq]
  generalize (lg_sl ([.ref (mg_h G), .int x, .int y, .int z, .int v0]) ++ List.replicate (6 - (lg_sl ([.ref (mg_h G), .int x, .int y, .int z, .int v0])).length) Slot.unset).toArray = ls at hl ⊢
  have hl : lv_has ls 6 [(0, .ref (mg_h G)), (1, .int x), (2, .int y), (3, .int z), (4, .int v0)] := hl
  refine lv_aload_n hx hb dX1_write_0 rfl (lv_at hl 0 rfl) ?_
  refine lv_iload_n hx hb dX1_write_1 rfl (lv_at hl 1 rfl) ?_
  refine lv_iload_n hx hb dX1_write_2 rfl (lv_at hl 2 rfl) ?_
  refine mr_ci (As := [.int x, .int y]) (rest := []) ⟨hx, hb, hml, hown, hts⟩ (k1_page l G S x y hO) (cwV 2 hts gX1_59 rfl rfl rfl hX1_page ⟨Nat.le_of_ble_eq_true rfl, Nat.le_of_ble_eq_true rfl⟩) hK hC rfl hl.1 rfl (Nat.le_of_ble_eq_true rfl) dX1_write_3 ⟨Nat.zero_le _, Nat.zero_le _⟩ (fun v S1 H locs hp hC => ?_)
  obtain ⟨hno, rfl, hS1⟩ | ⟨jj, aa, hpg, rfl, hS1⟩ := hp
  · skip
    rw [hS1] at hC
    have hC : mc_at G (mg_A G) s.heap (ms_st S 1) H locs := hC
    refine wn_if1 (tgt := 11) hx hb (by omega) dX1_write_6 rfl (fun h9 => absurd h9 (by omega)) (fun _ => ?_)
    refine lv_iconst (v := (nI 0)) hx hb dX1_write_9 (by decide +kernel) ?_
    exact mr_iret hx hb hr hlk hC (Or.inl ⟨hno, rfl, rfl⟩) dX1_write_10
  · skip
    rw [hS1] at hC
    have hC : mc_at G (mg_A G) s.heap (ms_st S 0) H locs := hC
    refine wn_if1 (tgt := 11) hx hb (by omega) dX1_write_6 rfl (fun _ => ?_) (fun h9 => absurd h9 (by omega))
    obtain ⟨T, hT9⟩ : ∃ z, z = ms_st S 0 := ⟨_, rfl⟩
    rw [← hT9] at hC
    have hO9 : mv_ok T := by rw [hT9]; exact hO
    obtain ⟨⟨hj4, rfl, hjB⟩, rfl, hak⟩ := hpg
    have hP1 := hO.2.1 jj hj4
    have hpg : mo_pg S (nI jj) (nI aa) jj aa := ⟨⟨hj4, rfl, hjB⟩, rfl, hak⟩
    have hjB : ms_B T jj ≠ 0 := by rw [hT9]; exact hjB
    have hak : aa < ms_P T jj := by rw [hT9]; exact hak
    have h32 : aa < 32 := by
      have h := hO9.2.1 jj hj4
      omega
    refine lv_iload_n hx hb dX1_write_11 rfl (lv_at hl 3 rfl) ?_
    refine lv_if_lt (tgt := 21) hx hb dX1_write_12 rfl (fun h1 => ?_) (fun h1 => ?_)
    · refine lv_aload_n hx hb dX1_write_21 rfl (lv_at hl 0 rfl) ?_
      refine lv_iconst (v := (nI 1)) hx hb dX1_write_22 (by decide +kernel) ?_
      rw [hT9] at hC
      refine mr_ci (As := [.int (nI 1)]) (rest := []) ⟨hx, hb, hml, hown, hts⟩ (k1_fail l G (ms_st S 0) 1) (cwV 1 hts gX1_50 rfl rfl rfl hX1_fail ⟨Nat.le_of_ble_eq_true rfl, Nat.le_of_ble_eq_true rfl⟩) hK hC rfl hl.1 rfl (Nat.le_of_ble_eq_true rfl) dX1_write_23 ⟨Nat.zero_le _, Nat.zero_le _⟩ (fun v S1 H locs hp hC => ?_)
      obtain ⟨rfl, hS1⟩ := hp
      rw [hS1] at hC
      have hC : mc_at G (mg_A G) s.heap (ms_st S 1) H locs := hC
      exact mr_iret hx hb hr hlk hC (Or.inr ⟨jj, aa, hpg, Or.inl ⟨by unfold ks_cell; rw [decide_eq_false (fun w => w h1)]; rfl, rfl, rfl⟩⟩) dX1_write_26
    · refine lv_iload_n hx hb dX1_write_15 rfl (lv_at hl 3 rfl) ?_
      refine lv_bipush (v := (nI 8)) hx hb dX1_write_16 (by decide +kernel) ?_
      refine lv_icmp_lt (tgt := 27) hx hb dX1_write_18 rfl (fun h2 => ?_) (fun h2 => ?_)
      · obtain ⟨kk, hk, rfl⟩ := ks_cell_ex (x := z) (by unfold ks_cell; rw [decide_eq_true h1, decide_eq_true h2]; rfl)
        refine lv_aload_n hx hb dX1_write_27 rfl (lv_at hl 0 rfl) ?_
        refine lv_iload_n hx hb dX1_write_28 rfl (lv_at hl 1 rfl) ?_
        refine lv_iload_n hx hb dX1_write_29 rfl (lv_at hl 2 rfl) ?_
        refine lv_iload_n hx hb dX1_write_30 rfl (lv_at hl 3 rfl) ?_
        refine mr_ci (As := [.int (nI jj), .int (nI aa), .int (nI kk)]) (rest := []) ⟨hx, hb, hml, hown, hts⟩ (k1_cellOf l G T jj aa kk hj4 h32 hk hO9) (cwV 3 hts gX1_63 rfl rfl rfl hX1_cellOf ⟨Nat.le_of_ble_eq_true rfl, Nat.le_of_ble_eq_true rfl⟩) hK hC rfl hl.1 rfl (Nat.le_of_ble_eq_true rfl) dX1_write_31 ⟨Nat.zero_le _, Nat.zero_le _⟩ (fun v S1 H locs hp hC => ?_)
        obtain ⟨hv1, hS1⟩ := hp
        rw [hS1] at hC
        refine lv_istore (lv' := [(5, .int v), (0, .ref (mg_h G)), (1, .int (nI jj)), (2, .int (nI aa)), (3, .int (nI kk)), (4, .int v0)]) hx hb dX1_write_34 hl (by decide) rfl (fun ls hl => ?_)
        refine lv_aload_n hx hb dX1_write_36 rfl (lv_at hl 1 rfl) ?_
        refine lv_iload_n hx hb dX1_write_37 rfl (lv_at hl 2 rfl) ?_
        refine lv_iload_n hx hb dX1_write_38 rfl (lv_at hl 3 rfl) ?_
        refine mr_ci (As := [.int (nI jj), .int (nI aa)]) (rest := []) ⟨hx, hb, hml, hown, hts⟩ (k1_at l G T jj aa hj4 h32) (cwV 2 hts gX1_34 rfl rfl rfl hX1_at ⟨Nat.le_of_ble_eq_true rfl, Nat.le_of_ble_eq_true rfl⟩) hK hC rfl hl.1 rfl (Nat.le_of_ble_eq_true rfl) dX1_write_39 ⟨Nat.zero_le _, Nat.zero_le _⟩ (fun v S1 H locs hp hC => ?_)
        obtain ⟨rfl, hS1⟩ := hp
        rw [hS1] at hC
        refine lv_iconst (v := (-1)) hx hb dX1_write_42 (by decide +kernel) ?_
        have hF := hO9.2.2 (32 * jj + aa) (by omega)
        have hgo : ∀ (ls : Array Slot) (H : Heap) (locs : List Loc), ¬ ((ms_F T (32 * jj + aa)) = 0 ∧ v0 = 0) → lv_has ls 6 [(5, .int v), (0, .ref (mg_h G)), (1, .int (nI jj)), (2, .int (nI aa)), (3, .int (nI kk)), (4, .int v0)] → mc_at G (mg_A G) s.heap T H locs → W p l e (headSpec wX1_write ({ frames := 4, cells := 0, slots := 0, locals := 128 })).room s m [.ref (mg_h G), .int (nI jj), .int (nI aa), .int (nI kk), .int v0].toArray below meth c H locs 0 0 (MQ below (va_Qi (fun (v : Int32) (S' : ms_T) => ((∀ j a, ¬ mo_pg S (nI jj) (nI aa) j a) ∧ v = nI 0 ∧ S' = ms_st S 1) ∨ ∃ j a, mo_pg S (nI jj) (nI aa) j a ∧ ((ks_cell (nI kk) = false ∧ v = nI 0 ∧ S' = ms_st S 1) ∨ ∃ k, k < 8 ∧ (nI kk) = nI k ∧ (((ms_F (ms_st S 0) (32 * j + a)) = 0 ∧ v0 = 0 ∧ v = ms_c (ms_st S 0) (ms_F (ms_st S 0) (32 * j + a)) k ∧ S' = ms_st S 0) ∨ (¬ ((ms_F (ms_st S 0) (32 * j + a)) = 0 ∧ v0 = 0) ∧ ms_al (ms_st S 0) (ms_F (ms_st S 0) (32 * j + a)) ∧ v = ms_c (ms_st S 0) (ms_F (ms_st S 0) (32 * j + a)) k ∧ S' = ms_sC (ms_st S 0) (8 * ((ms_F (ms_st S 0) (32 * j + a)) - 1) + k) v0) ∨ (¬ ((ms_F (ms_st S 0) (32 * j + a)) = 0 ∧ v0 = 0) ∧ ¬ ms_al (ms_st S 0) (ms_F (ms_st S 0) (32 * j + a)) ∧ (∀ f, f < 200 → cn_f (mv_F (ms_st S 0)) (f + 1) ≠ 0) ∧ v = nI 0 ∧ S' = ms_st S 2) ∨ (¬ ((ms_F (ms_st S 0) (32 * j + a)) = 0 ∧ v0 = 0) ∧ ¬ ms_al (ms_st S 0) (ms_F (ms_st S 0) (32 * j + a)) ∧ ∃ f, f < 200 ∧ cn_f (mv_F (ms_st S 0)) (f + 1) = 0 ∧ (∀ i, i < f → cn_f (mv_F (ms_st S 0)) (i + 1) ≠ 0) ∧ v = ms_c (ms_st S 0) (ms_F (ms_st S 0) (32 * j + a)) k ∧ S' = ms_sC (ms_nf (ms_st S 0) (32 * j + a) f) (8 * f + k) v0)))) (mc_q G) (mg_A G)) [.ref (mg_h G), .int (nI jj), .int (nI aa), .int (nI kk), .int v0].toArray s 0 0 (mg_A G)) (F0 m 54 ls []) := by
          intro ls H locs hnz hl hC
          refine lv_aload_n hx hb dX1_write_54 rfl (lv_at hl 1 rfl) ?_
          refine lv_iload_n hx hb dX1_write_55 rfl (lv_at hl 2 rfl) ?_
          refine lv_iload_n hx hb dX1_write_56 rfl (lv_at hl 3 rfl) ?_
          refine mr_ci (As := [.int (nI jj), .int (nI aa)]) (rest := []) ⟨hx, hb, hml, hown, hts⟩ (k1_alone l G T jj aa hj4 hjB hak hO9) (cwV 2 hts gX1_67 rfl rfl rfl hX1_alone ⟨Nat.le_of_ble_eq_true rfl, Nat.le_of_ble_eq_true rfl⟩) hK hC rfl hl.1 rfl (Nat.le_of_ble_eq_true rfl) dX1_write_57 ⟨Nat.zero_le _, Nat.zero_le _⟩ (fun v S1 H locs hp hC => ?_)
          obtain ⟨hal, rfl, hS1⟩ | ⟨hal, hnf, rfl, hS1⟩ | ⟨hal, f, hf4, hf0, hfm, rfl, hS1⟩ := hp
          · rw [hS1] at hC
            refine wn_if1 (tgt := 69) hx hb (by omega) dX1_write_60 rfl (fun _ => ?_) (fun h9 => absurd h9 (by omega))
            refine lv_aload_n hx hb dX1_write_69 rfl (lv_at hl 1 rfl) ?_
            refine mr_get hx hb hT mx_in hown hK hC 4 (by decide) (hT _ mw_374) rfl rfl dX1_write_70 ?_
            refine lv_bipush (v := (nI 8)) hx hb dX1_write_73 (by decide +kernel) ?_
            refine lv_aload_n hx hb dX1_write_75 rfl (lv_at hl 1 rfl) ?_
            refine lv_iload_n hx hb dX1_write_76 rfl (lv_at hl 2 rfl) ?_
            refine lv_iload_n hx hb dX1_write_77 rfl (lv_at hl 3 rfl) ?_
            refine mr_ci (As := [.int (nI jj), .int (nI aa)]) (rest := [.int (nI 8), .ref (mg_a G 3)]) ⟨hx, hb, hml, hown, hts⟩ (k1_at l G T jj aa hj4 h32) (cwV 2 hts gX1_34 rfl rfl rfl hX1_at ⟨Nat.le_of_ble_eq_true rfl, Nat.le_of_ble_eq_true rfl⟩) hK hC rfl hl.1 rfl (Nat.le_of_ble_eq_true rfl) dX1_write_78 ⟨Nat.zero_le _, Nat.zero_le _⟩ (fun v S1 H locs hp hC => ?_)
            obtain ⟨rfl, hS1⟩ := hp
            rw [hS1] at hC
            have hF1 := hal.1
            rw [ks_es hal.1]
            refine wn_mul hx hb dX1_write_81 ?_
            refine lv_iload_n hx hb dX1_write_82 rfl (lv_at hl 4 rfl) ?_
            refine wn_add hx hb dX1_write_83 ?_
            refine lv_iload hx hb dX1_write_84 (lv_at hl 5 rfl) ?_
            refine mr_stC hx hb hK hC (by omega) dX1_write_86 (fun H locs hC => ?_)
            refine lv_iload hx hb dX1_write_87 (lv_at hl 0 rfl) ?_
            subst hT9
            exact mr_iret hx hb hr hlk hC (Or.inr ⟨jj, aa, hpg, Or.inr ⟨kk, hk, rfl, Or.inr (Or.inl (⟨hnz, hal, hv1, rfl⟩))⟩⟩) dX1_write_89
          · rw [hS1] at hC
            refine wn_if1 (tgt := 69) hx hb (by omega) dX1_write_60 rfl (fun h9 => absurd h9 (by omega)) (fun _ => ?_)
            refine lv_aload_n hx hb dX1_write_63 rfl (lv_at hl 1 rfl) ?_
            refine lv_iconst (v := (nI 2)) hx hb dX1_write_64 (by decide +kernel) ?_
            subst hT9
            refine mr_ci (As := [.int (nI 2)]) (rest := []) ⟨hx, hb, hml, hown, hts⟩ (k1_fail l G (ms_st S 0) 2) (cwV 1 hts gX1_50 rfl rfl rfl hX1_fail ⟨Nat.le_of_ble_eq_true rfl, Nat.le_of_ble_eq_true rfl⟩) hK hC rfl hl.1 rfl (Nat.le_of_ble_eq_true rfl) dX1_write_65 ⟨Nat.zero_le _, Nat.zero_le _⟩ (fun v S1 H locs hp hC => ?_)
            obtain ⟨rfl, hS1⟩ := hp
            rw [hS1] at hC
            have hC : mc_at G (mg_A G) s.heap (ms_st S 2) H locs := hC
            exact mr_iret hx hb hr hlk hC (Or.inr ⟨jj, aa, hpg, Or.inr ⟨kk, hk, rfl, Or.inr (Or.inr (Or.inl (⟨hnz, hal, hnf, rfl, rfl⟩)))⟩⟩) dX1_write_68
          · rw [hS1] at hC
            refine wn_if1 (tgt := 69) hx hb (by omega) dX1_write_60 rfl (fun _ => ?_) (fun h9 => absurd h9 (by omega))
            refine lv_aload_n hx hb dX1_write_69 rfl (lv_at hl 1 rfl) ?_
            refine mr_get hx hb hT mx_in hown hK hC 4 (by decide) (hT _ mw_374) rfl rfl dX1_write_70 ?_
            refine lv_bipush (v := (nI 8)) hx hb dX1_write_73 (by decide +kernel) ?_
            refine lv_aload_n hx hb dX1_write_75 rfl (lv_at hl 1 rfl) ?_
            refine lv_iload_n hx hb dX1_write_76 rfl (lv_at hl 2 rfl) ?_
            refine lv_iload_n hx hb dX1_write_77 rfl (lv_at hl 3 rfl) ?_
            refine mr_ci (As := [.int (nI jj), .int (nI aa)]) (rest := [.int (nI 8), .ref (mg_a G 3)]) ⟨hx, hb, hml, hown, hts⟩ (k1_at l G (ms_nf T (32 * jj + aa) f) jj aa hj4 h32) (cwV 2 hts gX1_34 rfl rfl rfl hX1_at ⟨Nat.le_of_ble_eq_true rfl, Nat.le_of_ble_eq_true rfl⟩) hK hC rfl hl.1 rfl (Nat.le_of_ble_eq_true rfl) dX1_write_78 ⟨Nat.zero_le _, Nat.zero_le _⟩ (fun v S1 H locs hp hC => ?_)
            obtain ⟨rfl, hS1⟩ := hp
            rw [hS1] at hC
            rw [ms_nf_F, ks_e1]
            refine wn_mul hx hb dX1_write_81 ?_
            refine lv_iload_n hx hb dX1_write_82 rfl (lv_at hl 4 rfl) ?_
            refine wn_add hx hb dX1_write_83 ?_
            refine lv_iload hx hb dX1_write_84 (lv_at hl 5 rfl) ?_
            refine mr_stC hx hb hK hC (by omega) dX1_write_86 (fun H locs hC => ?_)
            refine lv_iload hx hb dX1_write_87 (lv_at hl 0 rfl) ?_
            subst hT9
            exact mr_iret hx hb hr hlk hC (Or.inr ⟨jj, aa, hpg, Or.inr ⟨kk, hk, rfl, Or.inr (Or.inr (Or.inr (⟨hnz, hal, f, hf4, hf0, hfm, hv1, rfl⟩)))⟩⟩) dX1_write_89
        refine lv_icmp_ne (tgt := 54) hx hb dX1_write_43 rfl (fun h3 => ?_) (fun h3 => ?_)
        · exact hgo ls H locs (fun h => h3 (by rw [h.1]; rfl)) hl hC
        · have h0 := (ks_eN (by omega)).mp h3
          refine lv_iload hx hb dX1_write_46 (lv_at hl 5 rfl) ?_
          refine lv_if_ne (tgt := 54) hx hb dX1_write_48 rfl (fun h4 => ?_) (fun h4 => ?_)
          · exact hgo ls H locs (fun h => h4 h.2) hl hC
          · refine lv_iload hx hb dX1_write_51 (lv_at hl 0 rfl) ?_
            subst hT9
            exact mr_iret hx hb hr hlk hC (Or.inr ⟨jj, aa, hpg, Or.inr ⟨kk, hk, rfl, Or.inl (⟨h0, h4, hv1, rfl⟩)⟩⟩) dX1_write_53
      · refine lv_aload_n hx hb dX1_write_21 rfl (lv_at hl 0 rfl) ?_
        refine lv_iconst (v := (nI 1)) hx hb dX1_write_22 (by decide +kernel) ?_
        rw [hT9] at hC
        refine mr_ci (As := [.int (nI 1)]) (rest := []) ⟨hx, hb, hml, hown, hts⟩ (k1_fail l G (ms_st S 0) 1) (cwV 1 hts gX1_50 rfl rfl rfl hX1_fail ⟨Nat.le_of_ble_eq_true rfl, Nat.le_of_ble_eq_true rfl⟩) hK hC rfl hl.1 rfl (Nat.le_of_ble_eq_true rfl) dX1_write_23 ⟨Nat.zero_le _, Nat.zero_le _⟩ (fun v S1 H locs hp hC => ?_)
        obtain ⟨rfl, hS1⟩ := hp
        rw [hS1] at hC
        have hC : mc_at G (mg_A G) s.heap (ms_st S 1) H locs := hC
        exact mr_iret hx hb hr hlk hC (Or.inr ⟨jj, aa, hpg, Or.inl ⟨by unfold ks_cell; rw [decide_eq_true h1, decide_eq_false h2]; rfl, rfl, rfl⟩⟩) dX1_write_26
set_option maxHeartbeats 4000000 in
set_option maxRecDepth 100000 in
/-- read(x, y, z) -/
theorem k1_read (l : Launch) (G : mg_T) (S : ms_T) (x y z : Int32) (hO : mv_ok S) : Met l yX1_read wX1_read ({ frames := 2, cells := 0, slots := 0, locals := 64 }) (va_Pc [.ref (mg_h G), .int x, .int y, .int z] (mc_p G S)) (va_Qi (fun (v : Int32) (S' : ms_T) => ((∀ j a, ¬ mo_pg S x y j a) ∧ v = nI 0 ∧ S' = ms_st S 1) ∨ ∃ j a, mo_pg S x y j a ∧ ((ks_cell z = false ∧ v = nI 0 ∧ S' = ms_st S 1) ∨ ∃ k, k < 8 ∧ z = nI k ∧ v = ms_c (ms_st S 0) (ms_F (ms_st S 0) (32 * j + a)) k ∧ S' = ms_st S 0)) (mc_q G) (mg_A G)) 0 0 (mg_A G) := by
  refine Met.ofW (cc := cX1_read) (maxL := 4) (ret := (some .int)) (by decide) rfl ?_
  intro p e s m args below meth c s₁ B hml hv
  obtain ⟨rfl, hv⟩ := hv
  have hx := B.exec
  have hb := B.bytes
  have hr := B.returns
  have hlk := B.notSynchronized
  have hts := atoms_spec (ws := wX1_read) B.pre
  have hT : ∀ w ∈ nw_T, w.before _ s = true := fun w h => hts w (List.mem_cons_of_mem _ h)
  have hown : s.vm.findClass RX1 = some m.cls := findClass_of_methodNamed B.named
  have hK : mc_K G s := hv.2.2
  have hC := mc_start hv
  have hl := lv_entry ([.ref (mg_h G), .int x, .int y, .int z]) (n := 4) (Nat.le_of_ble_eq_true rfl)
  rw [lg_entry_eq]
  generalize (lg_sl ([.ref (mg_h G), .int x, .int y, .int z]) ++ List.replicate (4 - (lg_sl ([.ref (mg_h G), .int x, .int y, .int z])).length) Slot.unset).toArray = ls at hl ⊢
  have hl : lv_has ls 4 [(0, .ref (mg_h G)), (1, .int x), (2, .int y), (3, .int z)] := hl
  refine lv_aload_n hx hb dX1_read_0 rfl (lv_at hl 0 rfl) ?_
  refine lv_iload_n hx hb dX1_read_1 rfl (lv_at hl 1 rfl) ?_
  refine lv_iload_n hx hb dX1_read_2 rfl (lv_at hl 2 rfl) ?_
  refine mr_ci (As := [.int x, .int y]) (rest := []) ⟨hx, hb, hml, hown, hts⟩ (k1_page l G S x y hO) (cwV 2 hts gX1_59 rfl rfl rfl hX1_page ⟨Nat.le_of_ble_eq_true rfl, Nat.le_of_ble_eq_true rfl⟩) hK hC rfl hl.1 rfl (Nat.le_of_ble_eq_true rfl) dX1_read_3 ⟨Nat.zero_le _, Nat.zero_le _⟩ (fun v S1 H locs hp hC => ?_)
  obtain ⟨hno, rfl, hS1⟩ | ⟨jj, aa, hpg, rfl, hS1⟩ := hp
  · skip
    rw [hS1] at hC
    have hC : mc_at G (mg_A G) s.heap (ms_st S 1) H locs := hC
    refine wn_if1 (tgt := 11) hx hb (by omega) dX1_read_6 rfl (fun h9 => absurd h9 (by omega)) (fun _ => ?_)
    refine lv_iconst (v := (nI 0)) hx hb dX1_read_9 (by decide +kernel) ?_
    exact mr_iret hx hb hr hlk hC (Or.inl ⟨hno, rfl, rfl⟩) dX1_read_10
  · skip
    rw [hS1] at hC
    have hC : mc_at G (mg_A G) s.heap (ms_st S 0) H locs := hC
    refine wn_if1 (tgt := 11) hx hb (by omega) dX1_read_6 rfl (fun _ => ?_) (fun h9 => absurd h9 (by omega))
    obtain ⟨T, hT9⟩ : ∃ z, z = ms_st S 0 := ⟨_, rfl⟩
    rw [← hT9] at hC
    have hO9 : mv_ok T := by rw [hT9]; exact hO
    obtain ⟨⟨hj4, rfl, hjB⟩, rfl, hak⟩ := hpg
    have hP1 := hO.2.1 jj hj4
    have hpg : mo_pg S (nI jj) (nI aa) jj aa := ⟨⟨hj4, rfl, hjB⟩, rfl, hak⟩
    have hjB : ms_B T jj ≠ 0 := by rw [hT9]; exact hjB
    have hak : aa < ms_P T jj := by rw [hT9]; exact hak
    have h32 : aa < 32 := by
      have h := hO9.2.1 jj hj4
      omega
    refine lv_iload_n hx hb dX1_read_11 rfl (lv_at hl 3 rfl) ?_
    refine lv_if_lt (tgt := 21) hx hb dX1_read_12 rfl (fun h1 => ?_) (fun h1 => ?_)
    · refine lv_aload_n hx hb dX1_read_21 rfl (lv_at hl 0 rfl) ?_
      refine lv_iconst (v := (nI 1)) hx hb dX1_read_22 (by decide +kernel) ?_
      rw [hT9] at hC
      refine mr_ci (As := [.int (nI 1)]) (rest := []) ⟨hx, hb, hml, hown, hts⟩ (k1_fail l G (ms_st S 0) 1) (cwV 1 hts gX1_50 rfl rfl rfl hX1_fail ⟨Nat.le_of_ble_eq_true rfl, Nat.le_of_ble_eq_true rfl⟩) hK hC rfl hl.1 rfl (Nat.le_of_ble_eq_true rfl) dX1_read_23 ⟨Nat.zero_le _, Nat.zero_le _⟩ (fun v S1 H locs hp hC => ?_)
      obtain ⟨rfl, hS1⟩ := hp
      rw [hS1] at hC
      have hC : mc_at G (mg_A G) s.heap (ms_st S 1) H locs := hC
      refine lv_goto (tgt := 36) hx hb dX1_read_26 rfl ?_
      exact mr_iret hx hb hr hlk hC (Or.inr ⟨jj, aa, hpg, Or.inl ⟨by unfold ks_cell; rw [decide_eq_false (fun w => w h1)]; rfl, rfl, rfl⟩⟩) dX1_read_36
    · refine lv_iload_n hx hb dX1_read_15 rfl (lv_at hl 3 rfl) ?_
      refine lv_bipush (v := (nI 8)) hx hb dX1_read_16 (by decide +kernel) ?_
      refine lv_icmp_lt (tgt := 29) hx hb dX1_read_18 rfl (fun h2 => ?_) (fun h2 => ?_)
      · obtain ⟨kk, hk, rfl⟩ := ks_cell_ex (x := z) (by unfold ks_cell; rw [decide_eq_true h1, decide_eq_true h2]; rfl)
        refine lv_aload_n hx hb dX1_read_29 rfl (lv_at hl 0 rfl) ?_
        refine lv_iload_n hx hb dX1_read_30 rfl (lv_at hl 1 rfl) ?_
        refine lv_iload_n hx hb dX1_read_31 rfl (lv_at hl 2 rfl) ?_
        refine lv_iload_n hx hb dX1_read_32 rfl (lv_at hl 3 rfl) ?_
        refine mr_ci (As := [.int (nI jj), .int (nI aa), .int (nI kk)]) (rest := []) ⟨hx, hb, hml, hown, hts⟩ (k1_cellOf l G T jj aa kk hj4 h32 hk hO9) (cwV 3 hts gX1_63 rfl rfl rfl hX1_cellOf ⟨Nat.le_of_ble_eq_true rfl, Nat.le_of_ble_eq_true rfl⟩) hK hC rfl hl.1 rfl (Nat.le_of_ble_eq_true rfl) dX1_read_33 ⟨Nat.zero_le _, Nat.zero_le _⟩ (fun v S1 H locs hp hC => ?_)
        obtain ⟨hv1, hS1⟩ := hp
        rw [hS1] at hC
        subst hT9
        exact mr_iret hx hb hr hlk hC (Or.inr ⟨jj, aa, hpg, Or.inr ⟨kk, hk, rfl, hv1, rfl⟩⟩) dX1_read_36
      · refine lv_aload_n hx hb dX1_read_21 rfl (lv_at hl 0 rfl) ?_
        refine lv_iconst (v := (nI 1)) hx hb dX1_read_22 (by decide +kernel) ?_
        rw [hT9] at hC
        refine mr_ci (As := [.int (nI 1)]) (rest := []) ⟨hx, hb, hml, hown, hts⟩ (k1_fail l G (ms_st S 0) 1) (cwV 1 hts gX1_50 rfl rfl rfl hX1_fail ⟨Nat.le_of_ble_eq_true rfl, Nat.le_of_ble_eq_true rfl⟩) hK hC rfl hl.1 rfl (Nat.le_of_ble_eq_true rfl) dX1_read_23 ⟨Nat.zero_le _, Nat.zero_le _⟩ (fun v S1 H locs hp hC => ?_)
        obtain ⟨rfl, hS1⟩ := hp
        rw [hS1] at hC
        have hC : mc_at G (mg_A G) s.heap (ms_st S 1) H locs := hC
        refine lv_goto (tgt := 36) hx hb dX1_read_26 rfl ?_
        exact mr_iret hx hb hr hlk hC (Or.inr ⟨jj, aa, hpg, Or.inl ⟨by unfold ks_cell; rw [decide_eq_true h1, decide_eq_false h2]; rfl, rfl, rfl⟩⟩) dX1_read_36
set_option maxHeartbeats 4000000 in
set_option maxRecDepth 100000 in
/-- blank(x, y) -/
theorem k1_blank (l : Launch) (G : mg_T) (S : ms_T) (x y : Int32) (hO : mv_ok S) : Met l yX1_blank wX1_blank ({ frames := 2, cells := 0, slots := 0, locals := 64 }) (va_Pc [.ref (mg_h G), .int x, .int y] (mc_p G S)) (va_Qi (fun (v : Int32) (S' : ms_T) => ((∀ j a, ¬ mo_pg S x y j a) ∧ v = nI 0 ∧ S' = ms_st S 1) ∨ ∃ j a, mo_pg S x y j a ∧ v = (if ms_F (ms_st S 0) (32 * j + a) = 0 then nI 0 else nI 1) ∧ S' = ms_sF (ms_st S 0) (32 * j + a) 0) (mc_q G) (mg_A G)) 0 0 (mg_A G) := by
  refine Met.ofW (cc := cX1_blank) (maxL := 4) (ret := (some .boolean)) (by decide) rfl ?_
  intro p e s m args below meth c s₁ B hml hv
  obtain ⟨rfl, hv⟩ := hv
  have hx := B.exec
  have hb := B.bytes
  have hr := B.returns
  have hlk := B.notSynchronized
  have hts := atoms_spec (ws := wX1_blank) B.pre
  have hT : ∀ w ∈ nw_T, w.before _ s = true := fun w h => hts w (List.mem_cons_of_mem _ h)
  have hown : s.vm.findClass RX1 = some m.cls := findClass_of_methodNamed B.named
  have hK : mc_K G s := hv.2.2
  have hC := mc_start hv
  have hl := lv_entry ([.ref (mg_h G), .int x, .int y]) (n := 4) (Nat.le_of_ble_eq_true rfl)
  rw [lg_entry_eq]
  generalize (lg_sl ([.ref (mg_h G), .int x, .int y]) ++ List.replicate (4 - (lg_sl ([.ref (mg_h G), .int x, .int y])).length) Slot.unset).toArray = ls at hl ⊢
  have hl : lv_has ls 4 [(0, .ref (mg_h G)), (1, .int x), (2, .int y)] := hl
  refine lv_aload_n hx hb dX1_blank_0 rfl (lv_at hl 0 rfl) ?_
  refine lv_iload_n hx hb dX1_blank_1 rfl (lv_at hl 1 rfl) ?_
  refine lv_iload_n hx hb dX1_blank_2 rfl (lv_at hl 2 rfl) ?_
  refine mr_ci (As := [.int x, .int y]) (rest := []) ⟨hx, hb, hml, hown, hts⟩ (k1_page l G S x y hO) (cwV 2 hts gX1_59 rfl rfl rfl hX1_page ⟨Nat.le_of_ble_eq_true rfl, Nat.le_of_ble_eq_true rfl⟩) hK hC rfl hl.1 rfl (Nat.le_of_ble_eq_true rfl) dX1_blank_3 ⟨Nat.zero_le _, Nat.zero_le _⟩ (fun v S1 H locs hp hC => ?_)
  obtain ⟨hno, rfl, hS1⟩ | ⟨jj, aa, hpg, rfl, hS1⟩ := hp
  · skip
    rw [hS1] at hC
    have hC : mc_at G (mg_A G) s.heap (ms_st S 1) H locs := hC
    refine wn_if1 (tgt := 11) hx hb (by omega) dX1_blank_6 rfl (fun h9 => absurd h9 (by omega)) (fun _ => ?_)
    refine lv_iconst (v := (nI 0)) hx hb dX1_blank_9 (by decide +kernel) ?_
    exact mr_zret hx hb hr hlk hC (by decide +kernel) (Or.inl ⟨hno, rfl, rfl⟩) dX1_blank_10
  · skip
    rw [hS1] at hC
    have hC : mc_at G (mg_A G) s.heap (ms_st S 0) H locs := hC
    refine wn_if1 (tgt := 11) hx hb (by omega) dX1_blank_6 rfl (fun _ => ?_) (fun h9 => absurd h9 (by omega))
    obtain ⟨T, hT9⟩ : ∃ z, z = ms_st S 0 := ⟨_, rfl⟩
    rw [← hT9] at hC
    have hO9 : mv_ok T := by rw [hT9]; exact hO
    obtain ⟨⟨hj4, rfl, hjB⟩, rfl, hak⟩ := hpg
    have hP1 := hO.2.1 jj hj4
    have hpg : mo_pg S (nI jj) (nI aa) jj aa := ⟨⟨hj4, rfl, hjB⟩, rfl, hak⟩
    have hjB : ms_B T jj ≠ 0 := by rw [hT9]; exact hjB
    have hak : aa < ms_P T jj := by rw [hT9]; exact hak
    have h32 : aa < 32 := by
      have h := hO9.2.1 jj hj4
      omega
    refine lv_aload_n hx hb dX1_blank_11 rfl (lv_at hl 0 rfl) ?_
    refine lv_iload_n hx hb dX1_blank_12 rfl (lv_at hl 1 rfl) ?_
    refine lv_iload_n hx hb dX1_blank_13 rfl (lv_at hl 2 rfl) ?_
    refine mr_ci (As := [.int (nI jj), .int (nI aa)]) (rest := []) ⟨hx, hb, hml, hown, hts⟩ (k1_at l G T jj aa hj4 h32) (cwV 2 hts gX1_34 rfl rfl rfl hX1_at ⟨Nat.le_of_ble_eq_true rfl, Nat.le_of_ble_eq_true rfl⟩) hK hC rfl hl.1 rfl (Nat.le_of_ble_eq_true rfl) dX1_blank_14 ⟨Nat.zero_le _, Nat.zero_le _⟩ (fun v S1 H locs hp hC => ?_)
    obtain ⟨rfl, hS1⟩ := hp
    rw [hS1] at hC
    refine lv_iconst (v := (-1)) hx hb dX1_blank_17 (by decide +kernel) ?_
    have hF := hO9.2.2 (32 * jj + aa) (by omega)
    refine lv_icmp_eq (tgt := 25) hx hb dX1_blank_18 rfl (fun h3 => ?_) (fun h3 => ?_)
    · have h0 := (ks_eN (by omega)).mp h3
      refine lv_iconst (v := (nI 0)) hx hb dX1_blank_25 (by decide +kernel) ?_
      refine lv_istore_n (lv' := [(3, .int (nI 0)), (0, .ref (mg_h G)), (1, .int (nI jj)), (2, .int (nI aa))]) hx hb dX1_blank_26 rfl hl (by decide) rfl (fun ls hl => ?_)
      refine lv_aload_n hx hb dX1_blank_27 rfl (lv_at hl 1 rfl) ?_
      refine mr_get hx hb hT mx_in hown hK hC 3 (by decide) (hT _ mw_373) rfl rfl dX1_blank_28 ?_
      refine lv_bipush (v := (nI 32)) hx hb dX1_blank_31 (by decide +kernel) ?_
      refine lv_iload_n hx hb dX1_blank_33 rfl (lv_at hl 2 rfl) ?_
      refine wn_mul hx hb dX1_blank_34 ?_
      refine lv_iload_n hx hb dX1_blank_35 rfl (lv_at hl 3 rfl) ?_
      refine wn_add hx hb dX1_blank_36 ?_
      refine lv_iconst (v := (-1)) hx hb dX1_blank_37 (by decide +kernel) ?_
      refine mr_stF (y := 0) hx hb hK hC (by omega) rfl dX1_blank_38 (fun H locs hC => ?_)
      refine lv_iload_n hx hb dX1_blank_39 rfl (lv_at hl 0 rfl) ?_
      subst hT9
      exact mr_zret hx hb hr hlk hC (by decide +kernel) (Or.inr ⟨jj, aa, hpg, (if_pos h0).symm, rfl⟩) dX1_blank_40
    · have h0 : ms_F T (32 * jj + aa) ≠ 0 := fun e => h3 (by rw [e]; rfl)
      refine lv_iconst (v := (nI 1)) hx hb dX1_blank_21 (by decide +kernel) ?_
      refine lv_goto (tgt := 26) hx hb dX1_blank_22 rfl ?_
      refine lv_istore_n (lv' := [(3, .int (nI 1)), (0, .ref (mg_h G)), (1, .int (nI jj)), (2, .int (nI aa))]) hx hb dX1_blank_26 rfl hl (by decide) rfl (fun ls hl => ?_)
      refine lv_aload_n hx hb dX1_blank_27 rfl (lv_at hl 1 rfl) ?_
      refine mr_get hx hb hT mx_in hown hK hC 3 (by decide) (hT _ mw_373) rfl rfl dX1_blank_28 ?_
      refine lv_bipush (v := (nI 32)) hx hb dX1_blank_31 (by decide +kernel) ?_
      refine lv_iload_n hx hb dX1_blank_33 rfl (lv_at hl 2 rfl) ?_
      refine wn_mul hx hb dX1_blank_34 ?_
      refine lv_iload_n hx hb dX1_blank_35 rfl (lv_at hl 3 rfl) ?_
      refine wn_add hx hb dX1_blank_36 ?_
      refine lv_iconst (v := (-1)) hx hb dX1_blank_37 (by decide +kernel) ?_
      refine mr_stF (y := 0) hx hb hK hC (by omega) rfl dX1_blank_38 (fun H locs hC => ?_)
      refine lv_iload_n hx hb dX1_blank_39 rfl (lv_at hl 0 rfl) ?_
      subst hT9
      exact mr_zret hx hb hr hlk hC (by decide +kernel) (Or.inr ⟨jj, aa, hpg, (if_neg h0).symm, rfl⟩) dX1_blank_40
set_option maxHeartbeats 4000000 in
set_option maxRecDepth 100000 in
/-- own(x, y) -/
theorem k1_own (l : Launch) (G : mg_T) (S : ms_T) (x y : Int32) (hO : mv_ok S) : Met l yX1_own wX1_own ({ frames := 4, cells := 0, slots := 0, locals := 128 }) (va_Pc [.ref (mg_h G), .int x, .int y] (mc_p G S)) (va_Qi (fun (v : Int32) (S' : ms_T) => ((∀ j a, ¬ mo_pg S x y j a) ∧ v = nI 0 ∧ S' = ms_st S 1) ∨ ∃ j a, mo_pg S x y j a ∧ ((ms_al (ms_st S 0) (ms_F (ms_st S 0) (32 * j + a)) ∧ v = nI 0 ∧ S' = ms_st S 0) ∨ (¬ ms_al (ms_st S 0) (ms_F (ms_st S 0) (32 * j + a)) ∧ (∀ f, f < 200 → cn_f (mv_F (ms_st S 0)) (f + 1) ≠ 0) ∧ v = nI 0 ∧ S' = ms_st S 2) ∨ (¬ ms_al (ms_st S 0) (ms_F (ms_st S 0) (32 * j + a)) ∧ ∃ f, f < 200 ∧ cn_f (mv_F (ms_st S 0)) (f + 1) = 0 ∧ (∀ i, i < f → cn_f (mv_F (ms_st S 0)) (i + 1) ≠ 0) ∧ v = nI 1 ∧ S' = ms_nf (ms_st S 0) (32 * j + a) f))) (mc_q G) (mg_A G)) 0 0 (mg_A G) := by
  refine Met.ofW (cc := cX1_own) (maxL := 4) (ret := (some .boolean)) (by decide) rfl ?_
  intro p e s m args below meth c s₁ B hml hv
  obtain ⟨rfl, hv⟩ := hv
  have hx := B.exec
  have hb := B.bytes
  have hr := B.returns
  have hlk := B.notSynchronized
  have hts := atoms_spec (ws := wX1_own) B.pre
  have hT : ∀ w ∈ nw_T, w.before _ s = true := fun w h => hts w (List.mem_cons_of_mem _ h)
  have hown : s.vm.findClass RX1 = some m.cls := findClass_of_methodNamed B.named
  have hK : mc_K G s := hv.2.2
  have hC := mc_start hv
  have hl := lv_entry ([.ref (mg_h G), .int x, .int y]) (n := 4) (Nat.le_of_ble_eq_true rfl)
  rw [lg_entry_eq]
  generalize (lg_sl ([.ref (mg_h G), .int x, .int y]) ++ List.replicate (4 - (lg_sl ([.ref (mg_h G), .int x, .int y])).length) Slot.unset).toArray = ls at hl ⊢
  have hl : lv_has ls 4 [(0, .ref (mg_h G)), (1, .int x), (2, .int y)] := hl
  refine lv_aload_n hx hb dX1_own_0 rfl (lv_at hl 0 rfl) ?_
  refine lv_iload_n hx hb dX1_own_1 rfl (lv_at hl 1 rfl) ?_
  refine lv_iload_n hx hb dX1_own_2 rfl (lv_at hl 2 rfl) ?_
  refine mr_ci (As := [.int x, .int y]) (rest := []) ⟨hx, hb, hml, hown, hts⟩ (k1_page l G S x y hO) (cwV 2 hts gX1_59 rfl rfl rfl hX1_page ⟨Nat.le_of_ble_eq_true rfl, Nat.le_of_ble_eq_true rfl⟩) hK hC rfl hl.1 rfl (Nat.le_of_ble_eq_true rfl) dX1_own_3 ⟨Nat.zero_le _, Nat.zero_le _⟩ (fun v S1 H locs hp hC => ?_)
  obtain ⟨hno, rfl, hS1⟩ | ⟨jj, aa, hpg, rfl, hS1⟩ := hp
  · skip
    rw [hS1] at hC
    have hC : mc_at G (mg_A G) s.heap (ms_st S 1) H locs := hC
    refine wn_if1 (tgt := 11) hx hb (by omega) dX1_own_6 rfl (fun h9 => absurd h9 (by omega)) (fun _ => ?_)
    refine lv_iconst (v := (nI 0)) hx hb dX1_own_9 (by decide +kernel) ?_
    exact mr_zret hx hb hr hlk hC (by decide +kernel) (Or.inl ⟨hno, rfl, rfl⟩) dX1_own_10
  · skip
    rw [hS1] at hC
    have hC : mc_at G (mg_A G) s.heap (ms_st S 0) H locs := hC
    refine wn_if1 (tgt := 11) hx hb (by omega) dX1_own_6 rfl (fun _ => ?_) (fun h9 => absurd h9 (by omega))
    obtain ⟨T, hT9⟩ : ∃ z, z = ms_st S 0 := ⟨_, rfl⟩
    rw [← hT9] at hC
    have hO9 : mv_ok T := by rw [hT9]; exact hO
    obtain ⟨⟨hj4, rfl, hjB⟩, rfl, hak⟩ := hpg
    have hP1 := hO.2.1 jj hj4
    have hpg : mo_pg S (nI jj) (nI aa) jj aa := ⟨⟨hj4, rfl, hjB⟩, rfl, hak⟩
    have hjB : ms_B T jj ≠ 0 := by rw [hT9]; exact hjB
    have hak : aa < ms_P T jj := by rw [hT9]; exact hak
    have h32 : aa < 32 := by
      have h := hO9.2.1 jj hj4
      omega
    have ht0 : ms_t T = 0 := by rw [hT9]; rfl
    have hF := hO9.2.2 (32 * jj + aa) (by omega)
    refine lv_aload_n hx hb dX1_own_11 rfl (lv_at hl 0 rfl) ?_
    refine lv_iload_n hx hb dX1_own_12 rfl (lv_at hl 1 rfl) ?_
    refine lv_iload_n hx hb dX1_own_13 rfl (lv_at hl 2 rfl) ?_
    refine mr_ci (As := [.int (nI jj), .int (nI aa)]) (rest := []) ⟨hx, hb, hml, hown, hts⟩ (k1_at l G T jj aa hj4 h32) (cwV 2 hts gX1_34 rfl rfl rfl hX1_at ⟨Nat.le_of_ble_eq_true rfl, Nat.le_of_ble_eq_true rfl⟩) hK hC rfl hl.1 rfl (Nat.le_of_ble_eq_true rfl) dX1_own_14 ⟨Nat.zero_le _, Nat.zero_le _⟩ (fun v S1 H locs hp hC => ?_)
    obtain ⟨rfl, hS1⟩ := hp
    rw [hS1] at hC
    refine lv_istore_n (lv' := [(3, .int (ks_e (ms_F T (32 * jj + aa)))), (0, .ref (mg_h G)), (1, .int (nI jj)), (2, .int (nI aa))]) hx hb dX1_own_17 rfl hl (by decide) rfl (fun ls hl => ?_)
    refine lv_aload_n hx hb dX1_own_18 rfl (lv_at hl 1 rfl) ?_
    refine lv_iload_n hx hb dX1_own_19 rfl (lv_at hl 2 rfl) ?_
    refine lv_iload_n hx hb dX1_own_20 rfl (lv_at hl 3 rfl) ?_
    refine mr_ci (As := [.int (nI jj), .int (nI aa)]) (rest := []) ⟨hx, hb, hml, hown, hts⟩ (k1_alone l G T jj aa hj4 hjB hak hO9) (cwV 2 hts gX1_67 rfl rfl rfl hX1_alone ⟨Nat.le_of_ble_eq_true rfl, Nat.le_of_ble_eq_true rfl⟩) hK hC rfl hl.1 rfl (Nat.le_of_ble_eq_true rfl) dX1_own_21 ⟨Nat.zero_le _, Nat.zero_le _⟩ (fun v S1 H locs hp hC => ?_)
    obtain ⟨hal, rfl, hS1⟩ | ⟨hal, hnf, rfl, hS1⟩ | ⟨hal, f, hf4, hf0, hfm, rfl, hS1⟩ := hp
    · rw [hS1] at hC
      refine wn_if1 (tgt := 32) hx hb (by omega) dX1_own_24 rfl (fun _ => ?_) (fun h9 => absurd h9 (by omega))
      refine lv_aload_n hx hb dX1_own_32 rfl (lv_at hl 1 rfl) ?_
      refine mr_get (v := .int (nI (ms_t T))) hx hb hT mx_in hown hK hC 0 (by decide) (hT _ mw_370) rfl rfl dX1_own_33 ?_
      rw [ht0]
      refine wn_if1 (tgt := 53) hx hb (by omega) dX1_own_36 rfl (fun h9 => absurd h9 (by omega)) (fun _ => ?_)
      refine lv_aload_n hx hb dX1_own_39 rfl (lv_at hl 1 rfl) ?_
      refine lv_iload_n hx hb dX1_own_40 rfl (lv_at hl 2 rfl) ?_
      refine lv_iload_n hx hb dX1_own_41 rfl (lv_at hl 3 rfl) ?_
      refine mr_ci (As := [.int (nI jj), .int (nI aa)]) (rest := []) ⟨hx, hb, hml, hown, hts⟩ (k1_at l G T jj aa hj4 h32) (cwV 2 hts gX1_34 rfl rfl rfl hX1_at ⟨Nat.le_of_ble_eq_true rfl, Nat.le_of_ble_eq_true rfl⟩) hK hC rfl hl.1 rfl (Nat.le_of_ble_eq_true rfl) dX1_own_42 ⟨Nat.zero_le _, Nat.zero_le _⟩ (fun v S1 H locs hp hC => ?_)
      obtain ⟨rfl, hS1⟩ := hp
      rw [hS1] at hC
      refine lv_iload_n hx hb dX1_own_45 rfl (lv_at hl 0 rfl) ?_
      refine lv_icmp_eq (tgt := 53) hx hb dX1_own_46 rfl (fun _ => ?_) (fun h9 => absurd rfl h9)
      refine lv_iconst (v := (nI 0)) hx hb dX1_own_53 (by decide +kernel) ?_
      subst hT9
      exact mr_zret hx hb hr hlk hC (by decide +kernel) (Or.inr ⟨jj, aa, hpg, Or.inl ⟨hal, rfl, rfl⟩⟩) dX1_own_54
    · rw [hS1] at hC
      refine wn_if1 (tgt := 32) hx hb (by omega) dX1_own_24 rfl (fun h9 => absurd h9 (by omega)) (fun _ => ?_)
      refine lv_aload_n hx hb dX1_own_27 rfl (lv_at hl 1 rfl) ?_
      refine lv_iconst (v := (nI 2)) hx hb dX1_own_28 (by decide +kernel) ?_
      refine mr_put (x := 2) hx hb hT mx_in hown hK hC (hT _ mw_370) dX1_own_29 (fun H locs hC => ?_)
      refine lv_aload_n hx hb dX1_own_32 rfl (lv_at hl 1 rfl) ?_
      refine mr_get (v := .int (nI 2)) hx hb hT mx_in hown hK hC 0 (by decide) (hT _ mw_370) rfl rfl dX1_own_33 ?_
      refine wn_if1 (tgt := 53) hx hb (by omega) dX1_own_36 rfl (fun _ => ?_) (fun h9 => absurd h9 (by omega))
      refine lv_iconst (v := (nI 0)) hx hb dX1_own_53 (by decide +kernel) ?_
      subst hT9
      have hC : mc_at G (mg_A G) s.heap (ms_st S 2) H locs := hC
      exact mr_zret hx hb hr hlk hC (by decide +kernel) (Or.inr ⟨jj, aa, hpg, Or.inr (Or.inl ⟨hal, hnf, rfl, rfl⟩)⟩) dX1_own_54
    · rw [hS1] at hC
      refine wn_if1 (tgt := 32) hx hb (by omega) dX1_own_24 rfl (fun _ => ?_) (fun h9 => absurd h9 (by omega))
      refine lv_aload_n hx hb dX1_own_32 rfl (lv_at hl 1 rfl) ?_
      have ht1 : ms_t (ms_nf T (32 * jj + aa) f) = 0 := ht0
      refine mr_get (v := .int (nI (ms_t (ms_nf T (32 * jj + aa) f)))) hx hb hT mx_in hown hK hC 0 (by decide) (hT _ mw_370) rfl rfl dX1_own_33 ?_
      rw [ht1]
      refine wn_if1 (tgt := 53) hx hb (by omega) dX1_own_36 rfl (fun h9 => absurd h9 (by omega)) (fun _ => ?_)
      refine lv_aload_n hx hb dX1_own_39 rfl (lv_at hl 1 rfl) ?_
      refine lv_iload_n hx hb dX1_own_40 rfl (lv_at hl 2 rfl) ?_
      refine lv_iload_n hx hb dX1_own_41 rfl (lv_at hl 3 rfl) ?_
      refine mr_ci (As := [.int (nI jj), .int (nI aa)]) (rest := []) ⟨hx, hb, hml, hown, hts⟩ (k1_at l G (ms_nf T (32 * jj + aa) f) jj aa hj4 h32) (cwV 2 hts gX1_34 rfl rfl rfl hX1_at ⟨Nat.le_of_ble_eq_true rfl, Nat.le_of_ble_eq_true rfl⟩) hK hC rfl hl.1 rfl (Nat.le_of_ble_eq_true rfl) dX1_own_42 ⟨Nat.zero_le _, Nat.zero_le _⟩ (fun v S1 H locs hp hC => ?_)
      obtain ⟨rfl, hS1⟩ := hp
      rw [hS1] at hC
      rw [ms_nf_F]
      refine lv_iload_n hx hb dX1_own_45 rfl (lv_at hl 0 rfl) ?_
      have hne : ¬ ks_e (f + 1) = ks_e (ms_F T (32 * jj + aa)) := fun e => by
        have e1 := (ks_e_eq (by omega) (by omega)).mp e
        have e2 : 0 < cn_f (mv_F T) (f + 1) := cn_f_pos.mpr ⟨jj, aa, hj4, h32, by rw [mv_F1 hjB hak, e1]⟩
        omega
      refine lv_icmp_eq (tgt := 53) hx hb dX1_own_46 rfl (fun h9 => absurd h9 hne) (fun _ => ?_)
      refine lv_iconst (v := (nI 1)) hx hb dX1_own_49 (by decide +kernel) ?_
      refine lv_goto (tgt := 54) hx hb dX1_own_50 rfl ?_
      subst hT9
      exact mr_zret hx hb hr hlk hC (by decide +kernel) (Or.inr ⟨jj, aa, hpg, Or.inr (Or.inr ⟨hal, f, hf4, hf0, hfm, rfl, rfl⟩)⟩) dX1_own_54
set_option maxHeartbeats 4000000 in
set_option maxRecDepth 100000 in
/-- size(x, y) -/
theorem k1_size (l : Launch) (G : mg_T) (S : ms_T) (x y : Int32) (hO : mv_ok S) : Met l yX1_size wX1_size ({ frames := 1, cells := 0, slots := 0, locals := 32 }) (va_Pc [.ref (mg_h G), .int x, .int y] (mc_p G S)) (va_Qi (fun (v : Int32) (S' : ms_T) => ((∀ j, ¬ mo_row S x j) ∧ v = nI 0 ∧ S' = ms_st S 1) ∨ ∃ j, mo_row S x j ∧ ((ks_cnt y = false ∧ v = nI 0 ∧ S' = ms_st S 2) ∨ ∃ k, k ≤ 32 ∧ y = nI k ∧ v = nI (ms_P S j) ∧ S' = ms_sP (ms_uF (ms_st S 0) (mf_w (ms_F S) (32 * j + ms_P S j) (fun _ => 0) (k - ms_P S j))) j k)) (mc_q G) (mg_A G)) 0 0 (mg_A G) := by
  refine Met.ofW (cc := cX1_size) (maxL := 5) (ret := (some .int)) (by decide) rfl ?_
  intro p e s m args below meth c s₁ B hml hv
  obtain ⟨rfl, hv⟩ := hv
  have hx := B.exec
  have hb := B.bytes
  have hr := B.returns
  have hlk := B.notSynchronized
  have hts := atoms_spec (ws := wX1_size) B.pre
  have hT : ∀ w ∈ nw_T, w.before _ s = true := fun w h => hts w (List.mem_cons_of_mem _ h)
  have hown : s.vm.findClass RX1 = some m.cls := findClass_of_methodNamed B.named
  have hK : mc_K G s := hv.2.2
  have hC := mc_start hv
  have hl := lv_entry ([.ref (mg_h G), .int x, .int y]) (n := 5) (Nat.le_of_ble_eq_true rfl)
  rw [lg_entry_eq]
  generalize (lg_sl ([.ref (mg_h G), .int x, .int y]) ++ List.replicate (5 - (lg_sl ([.ref (mg_h G), .int x, .int y])).length) Slot.unset).toArray = ls at hl ⊢
  have hl : lv_has ls 5 [(0, .ref (mg_h G)), (1, .int x), (2, .int y)] := hl
  refine lv_aload_n hx hb dX1_size_0 rfl (lv_at hl 0 rfl) ?_
  refine lv_iload_n hx hb dX1_size_1 rfl (lv_at hl 1 rfl) ?_
  refine mr_ci (As := [.int x]) (rest := []) ⟨hx, hb, hml, hown, hts⟩ (k1_lacks l G S x hO) (cwV 1 hts gX1_30 rfl rfl rfl hX1_lacks ⟨Nat.le_of_ble_eq_true rfl, Nat.le_of_ble_eq_true rfl⟩) hK hC rfl hl.1 rfl (Nat.le_of_ble_eq_true rfl) dX1_size_2 ⟨Nat.zero_le _, Nat.zero_le _⟩ (fun v S1 H locs hp hC => ?_)
  obtain ⟨hno, rfl, hS1⟩ | ⟨jj, hjj, rfl, hS1⟩ := hp
  · skip
    rw [hS1] at hC
    have hC : mc_at G (mg_A G) s.heap (ms_st S 1) H locs := hC
    refine wn_if0 (tgt := 10) hx hb (by omega) dX1_size_5 rfl (fun h9 => absurd h9 (by omega)) (fun _ => ?_)
    refine lv_iconst (v := (nI 0)) hx hb dX1_size_8 (by decide +kernel) ?_
    exact mr_iret hx hb hr hlk hC (Or.inl ⟨hno, rfl, rfl⟩) dX1_size_9
  · skip
    rw [hS1] at hC
    have hC : mc_at G (mg_A G) s.heap (ms_st S 0) H locs := hC
    refine wn_if0 (tgt := 10) hx hb (by omega) dX1_size_5 rfl (fun _ => ?_) (fun h9 => absurd h9 (by omega))
    obtain ⟨hj4, rfl, hjB⟩ := hjj
    have hP1 := hO.2.1 jj hj4
    obtain ⟨m9, hm9⟩ : ∃ z, z = ms_P S jj := ⟨_, rfl⟩
    rw [← hm9] at hP1
    refine lv_iload_n hx hb dX1_size_10 rfl (lv_at hl 2 rfl) ?_
    refine lv_if_lt (tgt := 20) hx hb dX1_size_11 rfl (fun h1 => ?_) (fun h1 => ?_)
    · refine lv_aload_n hx hb dX1_size_20 rfl (lv_at hl 0 rfl) ?_
      refine lv_iconst (v := (nI 2)) hx hb dX1_size_21 (by decide +kernel) ?_
      refine mr_ci (As := [.int (nI 2)]) (rest := []) ⟨hx, hb, hml, hown, hts⟩ (k1_fail l G (ms_st S 0) 2) (cwV 1 hts gX1_50 rfl rfl rfl hX1_fail ⟨Nat.le_of_ble_eq_true rfl, Nat.le_of_ble_eq_true rfl⟩) hK hC rfl hl.1 rfl (Nat.le_of_ble_eq_true rfl) dX1_size_22 ⟨Nat.zero_le _, Nat.zero_le _⟩ (fun v S1 H locs hp hC => ?_)
      obtain ⟨rfl, hS1⟩ := hp
      rw [hS1] at hC
      have hC : mc_at G (mg_A G) s.heap (ms_st S 2) H locs := hC
      exact mr_iret hx hb hr hlk hC (Or.inr ⟨jj, ⟨hj4, rfl, hjB⟩, Or.inl ⟨by unfold ks_cnt; rw [decide_eq_false (fun w => w h1)]; rfl, rfl, rfl⟩⟩) dX1_size_25
    · refine lv_iload_n hx hb dX1_size_14 rfl (lv_at hl 2 rfl) ?_
      refine lv_bipush (v := (nI 32)) hx hb dX1_size_15 (by decide +kernel) ?_
      refine lv_icmp_le (tgt := 26) hx hb dX1_size_17 rfl (fun h2 => ?_) (fun h2 => ?_)
      · obtain ⟨kk, hk, rfl⟩ := ks_cnt_ex (x := y) (by unfold ks_cnt; rw [decide_eq_true h1, decide_eq_true h2]; rfl)
        refine lv_aload_n hx hb dX1_size_26 rfl (lv_at hl 0 rfl) ?_
        refine mr_get hx hb hT mx_in hown hK hC 2 (by decide) (hT _ mw_372) rfl rfl dX1_size_27 ?_
        refine lv_iload_n hx hb dX1_size_30 rfl (lv_at hl 1 rfl) ?_
        refine mr_ldP hx hb hK hC (by omega) dX1_size_31 ?_
        have em : ms_P (ms_st S 0) jj = m9 := hm9.symm
        rw [em]
        refine lv_istore_n (lv' := [(3, .int (nI m9)), (0, .ref (mg_h G)), (1, .int (nI jj)), (2, .int (nI kk))]) hx hb dX1_size_32 rfl hl (by decide) rfl (fun ls hl => ?_)
        refine lv_iload_n hx hb dX1_size_33 rfl (lv_at hl 0 rfl) ?_
        refine lv_istore (lv' := [(4, .int (nI (m9 + 0))), (3, .int (nI m9)), (0, .ref (mg_h G)), (1, .int (nI jj)), (2, .int (nI kk))]) hx hb dX1_size_34 hl (by decide) rfl (fun ls hl => ?_)
        have hC : mc_at G (mg_A G) s.heap (ms_uF (ms_st S 0) (mf_w (ms_F S) (32 * jj + m9) (fun _ => 0) 0)) H locs := by rw [mf_0]; exact hC
        have loop : ∀ (n : Nat) (i : Nat) (ls : Array Slot) (H : Heap) (locs : List Loc), i + n = kk - m9 → i ≤ kk - m9 → lv_has ls 5 [(4, .int (nI (m9 + i))), (3, .int (nI m9)), (0, .ref (mg_h G)), (1, .int (nI jj)), (2, .int (nI kk))] → mc_at G (mg_A G) s.heap (ms_uF (ms_st S 0) (mf_w (ms_F S) (32 * jj + m9) (fun _ => 0) i)) H locs → W p l e (headSpec wX1_size ({ frames := 1, cells := 0, slots := 0, locals := 32 })).room s m [.ref (mg_h G), .int (nI jj), .int (nI kk)].toArray below meth c H locs 0 0 (MQ below (va_Qi (fun (v : Int32) (S' : ms_T) => ((∀ j, ¬ mo_row S (nI jj) j) ∧ v = nI 0 ∧ S' = ms_st S 1) ∨ ∃ j, mo_row S (nI jj) j ∧ ((ks_cnt (nI kk) = false ∧ v = nI 0 ∧ S' = ms_st S 2) ∨ ∃ k, k ≤ 32 ∧ (nI kk) = nI k ∧ v = nI (ms_P S j) ∧ S' = ms_sP (ms_uF (ms_st S 0) (mf_w (ms_F S) (32 * j + ms_P S j) (fun _ => 0) (k - ms_P S j))) j k)) (mc_q G) (mg_A G)) [.ref (mg_h G), .int (nI jj), .int (nI kk)].toArray s 0 0 (mg_A G)) (F0 m 36 ls []) := by
          intro n
          induction n with
          | zero =>
            intro i ls H locs hm hi hl hC
            refine lv_iload hx hb dX1_size_36 (lv_at hl 0 rfl) ?_
            refine lv_iload_n hx hb dX1_size_38 rfl (lv_at hl 4 rfl) ?_
            refine wn_ge (tgt := 61) hx hb (by omega) (by omega) dX1_size_39 rfl (fun _ => ?_) (fun h9 => absurd h9 (by omega))
            obtain rfl : i = kk - m9 := by omega
            refine lv_aload_n hx hb dX1_size_61 rfl (lv_at hl 2 rfl) ?_
            refine mr_get hx hb hT mx_in hown hK hC 2 (by decide) (hT _ mw_372) rfl rfl dX1_size_62 ?_
            refine lv_iload_n hx hb dX1_size_65 rfl (lv_at hl 3 rfl) ?_
            refine lv_iload_n hx hb dX1_size_66 rfl (lv_at hl 4 rfl) ?_
            refine mr_stP (y := kk) hx hb hK hC (by omega) rfl dX1_size_67 (fun H locs hC => ?_)
            refine lv_iload_n hx hb dX1_size_68 rfl (lv_at hl 1 rfl) ?_
            rw [hm9] at hC ⊢
            exact mr_iret hx hb hr hlk hC (Or.inr ⟨jj, ⟨hj4, rfl, hjB⟩, Or.inr ⟨kk, hk, rfl, rfl, rfl⟩⟩) dX1_size_69
          | succ n ih =>
            intro i ls H locs hm hi hl hC
            refine lv_iload hx hb dX1_size_36 (lv_at hl 0 rfl) ?_
            refine lv_iload_n hx hb dX1_size_38 rfl (lv_at hl 4 rfl) ?_
            refine wn_ge (tgt := 61) hx hb (by omega) (by omega) dX1_size_39 rfl (fun h9 => absurd h9 (by omega)) (fun _ => ?_)
            refine lv_aload_n hx hb dX1_size_42 rfl (lv_at hl 2 rfl) ?_
            refine mr_get hx hb hT mx_in hown hK hC 3 (by decide) (hT _ mw_373) rfl rfl dX1_size_43 ?_
            refine lv_bipush (v := (nI 32)) hx hb dX1_size_46 (by decide +kernel) ?_
            refine lv_iload_n hx hb dX1_size_48 rfl (lv_at hl 3 rfl) ?_
            refine wn_mul hx hb dX1_size_49 ?_
            refine lv_iload hx hb dX1_size_50 (lv_at hl 0 rfl) ?_
            refine wn_add hx hb dX1_size_52 ?_
            refine lv_iconst (v := (-1)) hx hb dX1_size_53 (by decide +kernel) ?_
            have e8 : 32 * jj + (m9 + i) = 32 * jj + m9 + i := by omega
            refine mr_stF (y := 0) hx hb hK hC (by omega) rfl dX1_size_54 (fun H locs hC => ?_)
            rw [e8] at hC
            have hC : mc_at G (mg_A G) s.heap (ms_uF (ms_st S 0) (mf_w (ms_F S) (32 * jj + m9) (fun _ => 0) (i + 1))) H locs := by rw [mf_s]; exact hC
            refine lv_iinc (lv' := [(4, .int (nI (m9 + i + 1))), (3, .int (nI m9)), (0, .ref (mg_h G)), (1, .int (nI jj)), (2, .int (nI kk))]) (v := (nI (m9 + i + 1))) (k := 0) hx hb dX1_size_55 hl rfl (nI_1 _) (by decide) rfl (fun ls hl => ?_)
            refine lv_goto (tgt := 36) hx hb dX1_size_58 rfl ?_
            exact ih (i + 1) ls H locs (by omega) (by omega) hl hC
        exact loop (kk - m9) 0 ls H locs (by omega) (by omega) hl hC
      · refine lv_aload_n hx hb dX1_size_20 rfl (lv_at hl 0 rfl) ?_
        refine lv_iconst (v := (nI 2)) hx hb dX1_size_21 (by decide +kernel) ?_
        refine mr_ci (As := [.int (nI 2)]) (rest := []) ⟨hx, hb, hml, hown, hts⟩ (k1_fail l G (ms_st S 0) 2) (cwV 1 hts gX1_50 rfl rfl rfl hX1_fail ⟨Nat.le_of_ble_eq_true rfl, Nat.le_of_ble_eq_true rfl⟩) hK hC rfl hl.1 rfl (Nat.le_of_ble_eq_true rfl) dX1_size_22 ⟨Nat.zero_le _, Nat.zero_le _⟩ (fun v S1 H locs hp hC => ?_)
        obtain ⟨rfl, hS1⟩ := hp
        rw [hS1] at hC
        have hC : mc_at G (mg_A G) s.heap (ms_st S 2) H locs := hC
        exact mr_iret hx hb hr hlk hC (Or.inr ⟨jj, ⟨hj4, rfl, hjB⟩, Or.inl ⟨by unfold ks_cnt; rw [decide_eq_true h1, decide_eq_false h2]; rfl, rfl, rfl⟩⟩) dX1_size_25
