/-! the class's further methods (laid by program) -/
set_option maxHeartbeats 4000000 in
set_option maxRecDepth 100000 in
/-- Arrays.fill(int[], int) -/
theorem k7_fill (l : Launch) (D : va_G) (a n : Nat) (cA : ClassId) (g : Nat → Int32) (x : Int32) (h31 : n < 2 ^ 31) : Met l yJ7_fill wJ7_fill ({ frames := 0, cells := 0, slots := 0, locals := 0 }) (va_Pc [.ref a, .int x] (fun U => va_P D vwCl [(a, .inl (cA, n, .inl g))] U.heap ∧ va_K D vwCl [(cA, .int)] U)) (va_Qv (fun g' : Nat → Int32 => ∀ j, j < n → g' j = x) (fun (g' : Nat → Int32) (t : State) => va_P D vwCl [(a, .inl (cA, n, .inl g'))] t.heap) (fun q => q = a)) 0 0 (fun q => q = a) := by
  refine Met.ofW (cc := cJ7_fill) (maxL := 4) (ret := none) (by decide) rfl ?_
  intro p e s m args below meth c s₁ B hml hv
  obtain ⟨rfl, hP, hK⟩ := hv
  have hx := B.exec
  have hb := B.bytes
  have hr := B.returns
  have hlk := B.notSynchronized
  have hD : va_D (fun q => q = a) [(a, .inl (cA, n, .inl g))] := ⟨fun i j p q hi hj _ => by
      have h1 : i < 1 := (List.getElem?_eq_some_iff.mp hi).1
      have h2 : j < 1 := (List.getElem?_eq_some_iff.mp hj).1
      omega, fun k q hk => by
      have h1 : k < 1 := (List.getElem?_eq_some_iff.mp hk).1
      rw [show k = 0 by omega] at hk
      cases hk
      rfl⟩
  have hS : va_S (fun q => q = a) s.heap s.heap [] := va_S.rf
  have hl := lv_entry ([.ref a, .int x]) (n := 4) (Nat.le_of_ble_eq_true rfl)
  rw [lg_entry_eq]
  generalize (lg_sl ([.ref a, .int x]) ++ List.replicate (4 - (lg_sl ([.ref a, .int x])).length) Slot.unset).toArray = ls at hl ⊢
  have hl : lv_has ls 4 [(0, .ref a), (1, .int x)] := hl
  refine lv_iconst (v := (nI 0)) hx hb dJ7_fill_0 (by decide +kernel) ?_
  refine lv_istore_n (lv' := [(2, .int (nI 0)), (0, .ref a), (1, .int x)]) hx hb dJ7_fill_1 rfl hl (by decide) rfl (fun ls hl => ?_)
  refine lv_aload_n hx hb dJ7_fill_2 rfl (lv_at hl 1 rfl) ?_
  refine va_alen (v := nI n) hx hb hK hP 0 0 rfl rfl rfl dJ7_fill_3 ?_
  refine lv_istore_n (lv' := [(3, .int (nI n)), (2, .int (nI 0)), (0, .ref a), (1, .int x)]) hx hb dJ7_fill_4 rfl hl (by decide) rfl (fun ls hl => ?_)
  have loop : ∀ (n2 i : Nat) (g' : Nat → Int32) (ls : Array Slot) (H : Heap) (locs : List Loc), i + n2 = n → (∀ j, j < i → g' j = x) → lv_has ls 4 [(3, .int (nI n)), (2, .int (nI i)), (0, .ref a), (1, .int x)] → va_P D vwCl [(a, .inl (cA, n, .inl g'))] H → va_D (fun q => q = a) [(a, .inl (cA, n, .inl g'))] → va_S (fun q => q = a) s.heap H locs → W p l e (headSpec wJ7_fill ({ frames := 0, cells := 0, slots := 0, locals := 0 })).room s m [.ref a, .int x].toArray below meth c H locs 0 0 (MQ below (va_Qv (fun g' : Nat → Int32 => ∀ j, j < n → g' j = x) (fun (g' : Nat → Int32) (t : State) => va_P D vwCl [(a, .inl (cA, n, .inl g'))] t.heap) (fun q => q = a)) [.ref a, .int x].toArray s 0 0 (fun q => q = a)) (F0 m 5 ls []) := by
    intro n2
    induction n2 with
    | zero =>
      intro i g' ls H locs hm hI hl hP hD hS
      refine lv_iload_n hx hb dJ7_fill_5 rfl (lv_at hl 1 rfl) ?_
      refine lv_iload_n hx hb dJ7_fill_6 rfl (lv_at hl 0 rfl) ?_
      refine wn_ge (tgt := 20) hx hb (by omega) (by omega) dJ7_fill_7 rfl (fun _ => ?_) (fun h9 => absurd h9 (by omega))
      exact W.vret hx hb hr (fun t ht hW => ⟨⟨g', rfl, fun j hj => hI j (by omega), by show va_P D vwCl _ t.heap; rw [ht]; exact hP⟩, hS.F ht⟩) hS.2.2 dJ7_fill_20 hlk
    | succ n2 ih =>
      intro i g' ls H locs hm hI hl hP hD hS
      refine lv_iload_n hx hb dJ7_fill_5 rfl (lv_at hl 1 rfl) ?_
      refine lv_iload_n hx hb dJ7_fill_6 rfl (lv_at hl 0 rfl) ?_
      refine wn_ge (tgt := 20) hx hb (by omega) (by omega) dJ7_fill_7 rfl (fun h9 => absurd h9 (by omega)) (fun _ => ?_)
      refine lv_aload_n hx hb dJ7_fill_10 rfl (lv_at hl 2 rfl) ?_
      refine lv_iload_n hx hb dJ7_fill_11 rfl (lv_at hl 1 rfl) ?_
      refine lv_iload_n hx hb dJ7_fill_12 rfl (lv_at hl 3 rfl) ?_
      refine va_iast hx hb hK hP hD hS 0 0 rfl rfl (vp_in_nI (show i < n by omega) h31) dJ7_fill_13 (fun H locs hP hD hS => ?_)
      rw [nI_clamp (by omega)] at hP hD
      refine lv_iinc (lv' := [(2, .int (nI (i + 1))), (3, .int (nI n)), (0, .ref a), (1, .int x)]) (v := (nI (i + 1))) (k := 1) hx hb dJ7_fill_14 hl rfl (nI_1 _) (by decide) rfl (fun ls hl => ?_)
      refine lv_goto (tgt := 5) hx hb dJ7_fill_17 rfl ?_
      have hl := lv_sub (l' := [(3, .int (nI n)), (2, .int (nI (i + 1))), (0, .ref a), (1, .int x)]) hl [1, 0, 2, 3] rfl
      exact ih (i + 1) (upd g' i x) ls H locs (by omega) (lt_s (fun j hj => by rw [← hI j hj]; exact if_neg (by omega)) (if_pos rfl)) hl hP hD hS
  exact loop n 0 g ls s.heap [] (by omega) lt_0 hl hP hD hS
set_option maxHeartbeats 4000000 in
set_option maxRecDepth 100000 in
/-- findOwners() -/
theorem k0_findOwners (l : Launch) (G : kg_T) (S : ks_T) (hP : ∀ r, r < 40 → ks_P S r ≤ 33) (hV : kv_c S) : Met l yX0_findOwners wX0_findOwners ({ frames := 1, cells := 0, slots := 0, locals := 32 }) (va_Pc [.ref (kg_h G)] (kc_p G S)) (va_Qv (fun S' : ks_T => ∃ o, S' = ks_uO S o ∧ ∀ f, f < 201 → ow_ok (ks_F S) (fun a b => a < 40 ∧ b + 1 < ks_P S a) f (o f)) (kc_q G) (kg_A G)) 0 0 (kg_A G) := by
  refine Met.ofW (cc := cX0_findOwners) (maxL := 5) (ret := none) (by decide) rfl ?_
  intro p e s m args below meth c s₁ B hml hv
  obtain ⟨rfl, hv⟩ := hv
  have hx := B.exec
  have hb := B.bytes
  have hr := B.returns
  have hlk := B.notSynchronized
  have hts := atoms_spec (ws := wX0_findOwners) B.pre
  have hT : ∀ w ∈ nw_T, w.before _ s = true := fun w h => hts w (List.mem_cons_of_mem _ h)
  have hown : s.vm.findClass RX0 = some m.cls := findClass_of_methodNamed B.named
  have hK : kc_K G s := hv.2.2
  have hC := kc_start hv
  have hl := lv_entry ([.ref (kg_h G)]) (n := 5) (Nat.le_of_ble_eq_true rfl)
  rw [lg_entry_eq]
  generalize (lg_sl ([.ref (kg_h G)]) ++ List.replicate (5 - (lg_sl ([.ref (kg_h G)])).length) Slot.unset).toArray = ls at hl ⊢
  have hl : lv_has ls 5 [(0, .ref (kg_h G))] := hl
  refine lv_aload_n hx hb dX0_findOwners_0 rfl (lv_at hl 0 rfl) ?_
  refine kr_get hx hb hT kx_in hown hK hC 5 (by decide) (hT _ mw_30) rfl rfl dX0_findOwners_1 ?_
  refine lv_iconst (v := (-1)) hx hb dX0_findOwners_4 (by decide +kernel) ?_
  have hP3 : va_P (kg_D G) vwCl [(kg_a G 3, .inl (kg_I G, 201, .inl (ks_O S)))] s.heap := fun k q hk => by
    have h1 : k < 1 := (List.getElem?_eq_some_iff.mp hk).1
    rw [show k = 0 by omega] at hk
    cases hk
    exact hC.1 (3 + 3) _ (kc_pos G S (k := 3) (by omega))
  have hK3 : va_K (kg_D G) vwCl [(kg_I G, .int)] s := hK.sub [0] rfl
  refine va_callv (va_runS (As := [.ref (kg_a G 3), .int (-1)]) (rest := []) ⟨hx, hb, hml, hown, hts⟩ (k7_fill l (kg_D G) (kg_a G 3) 201 (kg_I G) (ks_O S) (-1) (by omega)) (va_cwS 2 hts gX0_13 rfl rfl rfl hJ7_fill.2 ⟨Nat.le_of_ble_eq_true rfl, Nat.le_of_ble_eq_true rfl⟩) ⟨fun a U g mk q => ⟨q.1, q.2.1, va_K.moved (u := U) (U := U.calling g mk a) (Vm.Alike.refl U.vm) q.2.2⟩, fun U hU hW => ⟨rfl, by rw [hU]; exact hP3, va_K.moved hW.alike hK3⟩⟩ rfl rfl hl.1 rfl (lv_room (Nat.le_of_ble_eq_true rfl)) dX0_findOwners_5 ⟨Nat.zero_le _, Nat.zero_le _⟩) hC.2.2 (fun q _ h => Or.inr (Or.inr (Or.inr ⟨3, by omega, h⟩))) (fun q h => Or.inr (Or.inr (Or.inr ⟨3, by omega, h⟩))) (fun o t H locs ht hvm hp hB hz hk hS => ?_)
  have hcell := kc_cell (S' := ks_uO S o) (k := 3) (by omega) hC.1 hC.2.1 hk (by rw [← ht]; exact hB 0 _ rfl) (fun j _ hj => kc_ext (fun _ _ => rfl) (fun _ _ => rfl) (fun _ _ => rfl) (fun h => absurd h hj) (fun _ _ => rfl) (fun _ _ _ _ => rfl) (fun _ _ _ => rfl))
  have hC : kc_at G (kg_A G) s.heap (ks_uO S o) H locs := ⟨hcell.1, hcell.2, hS⟩
  have h0 : ∀ f, f < 201 → ow_ok (ks_F S) (ow_in S 0 0) f (o f) := fun f hf => Or.inl ⟨hp f hf, fun a b z => by unfold ow_in at z; omega⟩
  refine lv_iconst (v := (nI 0)) hx hb dX0_findOwners_8 (by decide +kernel) ?_
  refine lv_istore_n (lv' := [(1, .int (nI 0)), (0, .ref (kg_h G))]) hx hb dX0_findOwners_9 rfl hl (by decide) rfl (fun ls hl => ?_)
  have loop : ∀ (n r : Nat) (o : Nat → Int32) (ls : Array Slot) (H : Heap) (locs : List Loc), r + n = 40 → (∀ f, f < 201 → ow_ok (ks_F S) (ow_in S r 0) f (o f)) → lv_has ls 5 [(1, .int (nI r)), (0, .ref (kg_h G))] → kc_at G (kg_A G) s.heap (ks_uO S o) H locs → W p l e (headSpec wX0_findOwners ({ frames := 1, cells := 0, slots := 0, locals := 32 })).room s m [.ref (kg_h G)].toArray below meth c H locs 0 0 (MQ below (va_Qv (fun S' : ks_T => ∃ o, S' = ks_uO S o ∧ ∀ f, f < 201 → ow_ok (ks_F S) (fun a b => a < 40 ∧ b + 1 < ks_P S a) f (o f)) (kc_q G) (kg_A G)) [.ref (kg_h G)].toArray s 0 0 (kg_A G)) (F0 m 10 ls []) := by
    intro n
    induction n with
    | zero =>
      intro r o ls H locs hm hI hl hC
      refine lv_iload_n hx hb dX0_findOwners_10 rfl (lv_at hl 0 rfl) ?_
      refine lv_bipush (v := (nI 40)) hx hb dX0_findOwners_11 (by decide +kernel) ?_
      refine wn_ge (tgt := 93) hx hb (by omega) (by omega) dX0_findOwners_13 rfl (fun _ => ?_) (fun h9 => absurd h9 (by omega))
      exact kr_vret hx hb hr hlk hC (⟨o, rfl, fun f hf => (hI f hf).of (fun a b _ => by unfold ow_in; rw [show r = 40 by omega]; constructor <;> intro z <;> omega)⟩) dX0_findOwners_93
    | succ n ih =>
      intro r o ls H locs hm hI hl hC
      refine lv_iload_n hx hb dX0_findOwners_10 rfl (lv_at hl 0 rfl) ?_
      refine lv_bipush (v := (nI 40)) hx hb dX0_findOwners_11 (by decide +kernel) ?_
      refine wn_ge (tgt := 93) hx hb (by omega) (by omega) dX0_findOwners_13 rfl (fun h9 => absurd h9 (by omega)) (fun _ => ?_)
      refine lv_iconst (v := (nI 0)) hx hb dX0_findOwners_16 (by decide +kernel) ?_
      refine lv_istore_n (lv' := [(2, .int (nI 0)), (1, .int (nI r)), (0, .ref (kg_h G))]) hx hb dX0_findOwners_17 rfl hl (by decide) rfl (fun ls hl => ?_)
      have hgo : ∀ (o : Nat → Int32) (k : Nat) (ls : Array Slot) (H : Heap) (locs : List Loc), (∀ b, b + 1 < ks_P S r ↔ b < k) → (∀ f, f < 201 → ow_ok (ks_F S) (ow_in S r k) f (o f)) → lv_has ls 5 [(1, .int (nI r)), (0, .ref (kg_h G))] → kc_at G (kg_A G) s.heap (ks_uO S o) H locs → W p l e (headSpec wX0_findOwners ({ frames := 1, cells := 0, slots := 0, locals := 32 })).room s m [.ref (kg_h G)].toArray below meth c H locs 0 0 (MQ below (va_Qv (fun S' : ks_T => ∃ o, S' = ks_uO S o ∧ ∀ f, f < 201 → ow_ok (ks_F S) (fun a b => a < 40 ∧ b + 1 < ks_P S a) f (o f)) (kc_q G) (kg_A G)) [.ref (kg_h G)].toArray s 0 0 (kg_A G)) (F0 m 87 ls []) := by
        intro o k ls H locs hk hI hl hC
        refine lv_iinc (lv' := [(1, .int (nI (r + 1))), (0, .ref (kg_h G))]) (v := (nI (r + 1))) (k := 0) hx hb dX0_findOwners_87 hl rfl (nI_1 _) (by decide) rfl (fun ls hl => ?_)
        refine lv_goto (tgt := 10) hx hb dX0_findOwners_90 rfl ?_
        exact ih (r + 1) o ls H locs (by omega) (fun f hf => (hI f hf).of (fun a b _ => ow_next hk a b)) hl hC
      by_cases hr0 : ks_P S r = 0
      · refine lv_iload_n hx hb dX0_findOwners_18 rfl (lv_at hl 0 rfl) ?_
        refine lv_aload_n hx hb dX0_findOwners_19 rfl (lv_at hl 2 rfl) ?_
        refine kr_get hx hb hT kx_in hown hK hC 0 (by decide) (hT _ mw_25) rfl rfl dX0_findOwners_20 ?_
        refine lv_iload_n hx hb dX0_findOwners_23 rfl (lv_at hl 1 rfl) ?_
        refine kr_ldP hx hb hK hC (by omega) dX0_findOwners_24 ?_
        have e1 : ks_e (ks_P (ks_uO S o) r) = -1 := by show ks_e (ks_P S r) = -1; rw [hr0]; rfl
        rw [e1]
        refine lv_icmp_ge (tgt := 87) hx hb dX0_findOwners_25 rfl (fun _ => ?_) (fun h9 => absurd (show (-1 : Int32) ≤ nI 0 by decide +kernel) h9)
        have hl := lv_sub (l' := [(1, .int (nI r)), (0, .ref (kg_h G))]) hl [1, 2] rfl
        exact hgo o 0 ls H locs (fun b => by rw [hr0]; omega) hI hl hC
      · obtain ⟨k, hk⟩ : ∃ k, ks_P S r = k + 1 := ⟨ks_P S r - 1, by omega⟩
        have hk32 := hP r (by omega)
        have loop2 : ∀ (n2 i : Nat) (o : Nat → Int32) (ls : Array Slot) (H : Heap) (locs : List Loc), i + n2 = k → (∀ f, f < 201 → ow_ok (ks_F S) (ow_in S r i) f (o f)) → lv_has ls 5 [(2, .int (nI i)), (1, .int (nI r)), (0, .ref (kg_h G))] → kc_at G (kg_A G) s.heap (ks_uO S o) H locs → W p l e (headSpec wX0_findOwners ({ frames := 1, cells := 0, slots := 0, locals := 32 })).room s m [.ref (kg_h G)].toArray below meth c H locs 0 0 (MQ below (va_Qv (fun S' : ks_T => ∃ o, S' = ks_uO S o ∧ ∀ f, f < 201 → ow_ok (ks_F S) (fun a b => a < 40 ∧ b + 1 < ks_P S a) f (o f)) (kc_q G) (kg_A G)) [.ref (kg_h G)].toArray s 0 0 (kg_A G)) (F0 m 18 ls []) := by
          intro n2
          induction n2 with
          | zero =>
            intro i o ls H locs hm2 hI hl hC
            have ek : ks_e (ks_P (ks_uO S o) r) = nI k := by show ks_e (ks_P S r) = nI k; rw [ks_es (by omega), hk]; rfl
            refine lv_iload_n hx hb dX0_findOwners_18 rfl (lv_at hl 0 rfl) ?_
            refine lv_aload_n hx hb dX0_findOwners_19 rfl (lv_at hl 2 rfl) ?_
            refine kr_get hx hb hT kx_in hown hK hC 0 (by decide) (hT _ mw_25) rfl rfl dX0_findOwners_20 ?_
            refine lv_iload_n hx hb dX0_findOwners_23 rfl (lv_at hl 1 rfl) ?_
            refine kr_ldP hx hb hK hC (by omega) dX0_findOwners_24 ?_
            rw [ek]
            refine wn_ge (tgt := 87) hx hb (by omega) (by omega) dX0_findOwners_25 rfl (fun _ => ?_) (fun h9 => absurd h9 (by omega))
            have hl := lv_sub (l' := [(1, .int (nI r)), (0, .ref (kg_h G))]) hl [1, 2] rfl
            exact hgo o i ls H locs (fun b => by rw [hk]; omega) hI hl hC
          | succ n2 ih2 =>
            intro i o ls H locs hm2 hI hl hC
            have ek : ks_e (ks_P (ks_uO S o) r) = nI k := by show ks_e (ks_P S r) = nI k; rw [ks_es (by omega), hk]; rfl
            refine lv_iload_n hx hb dX0_findOwners_18 rfl (lv_at hl 0 rfl) ?_
            refine lv_aload_n hx hb dX0_findOwners_19 rfl (lv_at hl 2 rfl) ?_
            refine kr_get hx hb hT kx_in hown hK hC 0 (by decide) (hT _ mw_25) rfl rfl dX0_findOwners_20 ?_
            refine lv_iload_n hx hb dX0_findOwners_23 rfl (lv_at hl 1 rfl) ?_
            refine kr_ldP hx hb hK hC (by omega) dX0_findOwners_24 ?_
            rw [ek]
            refine wn_ge (tgt := 87) hx hb (by omega) (by omega) dX0_findOwners_25 rfl (fun h9 => absurd h9 (by omega)) (fun _ => ?_)
            have hF : ks_F S r i < 201 := hV.1 r i (by omega) (by omega)
            have hend : ∀ (v : Int32) (b : Nat) (ls : Array Slot), v = (if o (ks_F S r i) = -1 ∨ o (ks_F S r i) = nI r then nI r else -2) → lv_has ls 5 [(2, .int (nI i)), (1, .int (nI r)), (0, .ref (kg_h G))] → W p l e (headSpec wX0_findOwners ({ frames := 1, cells := 0, slots := 0, locals := 32 })).room s m [.ref (kg_h G)].toArray below meth c H locs 0 0 (MQ below (va_Qv (fun S' : ks_T => ∃ o, S' = ks_uO S o ∧ ∀ f, f < 201 → ow_ok (ks_F S) (fun a b => a < 40 ∧ b + 1 < ks_P S a) f (o f)) (kc_q G) (kg_A G)) [.ref (kg_h G)].toArray s 0 0 (kg_A G)) (F0 m 80 ls [.int v, .int (nI (ks_F S r i)), .ref (kg_a G 3)]) := by
              intro v b ls hv hl
              refine kr_stO hx hb hK hC (by omega) dX0_findOwners_80 (fun H locs hC => ?_)
              refine lv_iinc (lv' := [(2, .int (nI (i + 1))), (1, .int (nI r)), (0, .ref (kg_h G))]) (v := (nI (i + 1))) (k := 0) hx hb dX0_findOwners_81 hl rfl (nI_1 _) (by decide) rfl (fun ls hl => ?_)
              refine lv_goto (tgt := 18) hx hb dX0_findOwners_84 rfl ?_
              exact ih2 (i + 1) (upd o (ks_F S r i) v) ls H locs (by omega) (ow_step (by omega) hI hF hv) hl hC
            refine lv_aload_n hx hb dX0_findOwners_28 rfl (lv_at hl 2 rfl) ?_
            refine kr_get hx hb hT kx_in hown hK hC 1 (by decide) (hT _ mw_26) rfl rfl dX0_findOwners_29 ?_
            refine lv_iload_n hx hb dX0_findOwners_32 rfl (lv_at hl 1 rfl) ?_
            refine kr_aF hx hb hK hC (by omega) dX0_findOwners_33 ?_
            refine lv_iload_n hx hb dX0_findOwners_34 rfl (lv_at hl 0 rfl) ?_
            refine kr_ldF hx hb hK hC (by omega) (by omega) dX0_findOwners_35 ?_
            refine lv_istore_n (lv' := [(3, .int (nI (ks_F S r i))), (2, .int (nI i)), (1, .int (nI r)), (0, .ref (kg_h G))]) hx hb dX0_findOwners_36 rfl hl (by decide) rfl (fun ls hl => ?_)
            refine lv_aload_n hx hb dX0_findOwners_37 rfl (lv_at hl 3 rfl) ?_
            refine kr_get hx hb hT kx_in hown hK hC 5 (by decide) (hT _ mw_30) rfl rfl dX0_findOwners_38 ?_
            refine lv_iload_n hx hb dX0_findOwners_41 rfl (lv_at hl 0 rfl) ?_
            refine kr_ldO hx hb hK hC (by omega) dX0_findOwners_42 ?_
            refine lv_iconst (v := (-1)) hx hb dX0_findOwners_43 (by decide +kernel) ?_
            refine lv_icmp_eq (tgt := 57) hx hb dX0_findOwners_44 rfl (fun h3 => ?_) (fun h3 => ?_)
            · refine lv_iconst (v := (nI 1)) hx hb dX0_findOwners_57 (by decide +kernel) ?_
              refine lv_goto (tgt := 62) hx hb dX0_findOwners_58 rfl ?_
              refine lv_istore (lv' := [(4, .int (nI 1)), (3, .int (nI (ks_F S r i))), (2, .int (nI i)), (1, .int (nI r)), (0, .ref (kg_h G))]) hx hb dX0_findOwners_62 hl (by decide) rfl (fun ls hl => ?_)
              refine lv_aload_n hx hb dX0_findOwners_64 rfl (lv_at hl 4 rfl) ?_
              refine kr_get hx hb hT kx_in hown hK hC 5 (by decide) (hT _ mw_30) rfl rfl dX0_findOwners_65 ?_
              refine lv_iload_n hx hb dX0_findOwners_68 rfl (lv_at hl 1 rfl) ?_
              refine lv_iload hx hb dX0_findOwners_69 (lv_at hl 0 rfl) ?_
              refine wn_if0 (tgt := 78) hx hb (by omega) dX0_findOwners_71 rfl (fun h9 => absurd h9 (by omega)) (fun _ => ?_)
              refine lv_iload_n hx hb dX0_findOwners_74 rfl (lv_at hl 3 rfl) ?_
              refine lv_goto (tgt := 80) hx hb dX0_findOwners_75 rfl ?_
              have hl := lv_sub (l' := [(2, .int (nI i)), (1, .int (nI r)), (0, .ref (kg_h G))]) hl [2, 3, 4] rfl
              exact hend _ 0 ls ((if_pos (Or.inl h3)).symm) hl
            · refine lv_aload_n hx hb dX0_findOwners_47 rfl (lv_at hl 3 rfl) ?_
              refine kr_get hx hb hT kx_in hown hK hC 5 (by decide) (hT _ mw_30) rfl rfl dX0_findOwners_48 ?_
              refine lv_iload_n hx hb dX0_findOwners_51 rfl (lv_at hl 0 rfl) ?_
              refine kr_ldO hx hb hK hC (by omega) dX0_findOwners_52 ?_
              refine lv_iload_n hx hb dX0_findOwners_53 rfl (lv_at hl 2 rfl) ?_
              refine lv_icmp_ne (tgt := 61) hx hb dX0_findOwners_54 rfl (fun h4 => ?_) (fun h4 => ?_)
              · refine lv_iconst (v := (nI 0)) hx hb dX0_findOwners_61 (by decide +kernel) ?_
                refine lv_istore (lv' := [(4, .int (nI 0)), (3, .int (nI (ks_F S r i))), (2, .int (nI i)), (1, .int (nI r)), (0, .ref (kg_h G))]) hx hb dX0_findOwners_62 hl (by decide) rfl (fun ls hl => ?_)
                refine lv_aload_n hx hb dX0_findOwners_64 rfl (lv_at hl 4 rfl) ?_
                refine kr_get hx hb hT kx_in hown hK hC 5 (by decide) (hT _ mw_30) rfl rfl dX0_findOwners_65 ?_
                refine lv_iload_n hx hb dX0_findOwners_68 rfl (lv_at hl 1 rfl) ?_
                refine lv_iload hx hb dX0_findOwners_69 (lv_at hl 0 rfl) ?_
                refine wn_if0 (tgt := 78) hx hb (by omega) dX0_findOwners_71 rfl (fun _ => ?_) (fun h9 => absurd rfl h9)
                refine lv_bipush (v := (-2)) hx hb dX0_findOwners_78 (by decide +kernel) ?_
                have hl := lv_sub (l' := [(2, .int (nI i)), (1, .int (nI r)), (0, .ref (kg_h G))]) hl [2, 3, 4] rfl
                exact hend _ 0 ls ((if_neg (fun z => z.elim h3 h4)).symm) hl
              · refine lv_iconst (v := (nI 1)) hx hb dX0_findOwners_57 (by decide +kernel) ?_
                refine lv_goto (tgt := 62) hx hb dX0_findOwners_58 rfl ?_
                refine lv_istore (lv' := [(4, .int (nI 1)), (3, .int (nI (ks_F S r i))), (2, .int (nI i)), (1, .int (nI r)), (0, .ref (kg_h G))]) hx hb dX0_findOwners_62 hl (by decide) rfl (fun ls hl => ?_)
                refine lv_aload_n hx hb dX0_findOwners_64 rfl (lv_at hl 4 rfl) ?_
                refine kr_get hx hb hT kx_in hown hK hC 5 (by decide) (hT _ mw_30) rfl rfl dX0_findOwners_65 ?_
                refine lv_iload_n hx hb dX0_findOwners_68 rfl (lv_at hl 1 rfl) ?_
                refine lv_iload hx hb dX0_findOwners_69 (lv_at hl 0 rfl) ?_
                refine wn_if0 (tgt := 78) hx hb (by omega) dX0_findOwners_71 rfl (fun h9 => absurd h9 (by omega)) (fun _ => ?_)
                refine lv_iload_n hx hb dX0_findOwners_74 rfl (lv_at hl 3 rfl) ?_
                refine lv_goto (tgt := 80) hx hb dX0_findOwners_75 rfl ?_
                have hl := lv_sub (l' := [(2, .int (nI i)), (1, .int (nI r)), (0, .ref (kg_h G))]) hl [2, 3, 4] rfl
                exact hend _ 0 ls ((if_pos (Or.inr h4)).symm) hl
        exact loop2 k 0 o ls H locs (by omega) hI hl hC
  exact loop 40 0 o ls H locs rfl h0 hl hC
set_option maxHeartbeats 4000000 in
set_option maxRecDepth 100000 in
/-- framesOwnedBy(x) -/
theorem k0_framesOwnedBy (l : Launch) (G : kg_T) (S : ks_T) (x : Int32) (hP : ∀ r, r < 40 → ks_P S r ≤ 33) (hV : kv_c S) : Met l yX0_framesOwnedBy wX0_framesOwnedBy ({ frames := 2, cells := 0, slots := 0, locals := 64 }) (va_Pc [.ref (kg_h G), .int x] (kc_p G S)) (va_Qi (fun (v : Int32) (S' : ks_T) => ∃ o, S' = ks_uO S o ∧ v = nI (ct_b (fun i => decide (o (i + 1) = x)) 200) ∧ ∀ f, f < 201 → ow_ok (ks_F S) (fun a b => a < 40 ∧ b + 1 < ks_P S a) f (o f)) (kc_q G) (kg_A G)) 0 0 (kg_A G) := by
  refine Met.ofW (cc := cX0_framesOwnedBy) (maxL := 4) (ret := (some .int)) (by decide) rfl ?_
  intro p e s m args below meth c s₁ B hml hv
  obtain ⟨rfl, hv⟩ := hv
  have hx := B.exec
  have hb := B.bytes
  have hr := B.returns
  have hlk := B.notSynchronized
  have hts := atoms_spec (ws := wX0_framesOwnedBy) B.pre
  have hT : ∀ w ∈ nw_T, w.before _ s = true := fun w h => hts w (List.mem_cons_of_mem _ h)
  have hown : s.vm.findClass RX0 = some m.cls := findClass_of_methodNamed B.named
  have hK : kc_K G s := hv.2.2
  have hC := kc_start hv
  have hl := lv_entry ([.ref (kg_h G), .int x]) (n := 4) (Nat.le_of_ble_eq_true rfl)
  rw [lg_entry_eq]
  generalize (lg_sl ([.ref (kg_h G), .int x]) ++ List.replicate (4 - (lg_sl ([.ref (kg_h G), .int x])).length) Slot.unset).toArray = ls at hl ⊢
  have hl : lv_has ls 4 [(0, .ref (kg_h G)), (1, .int x)] := hl
  refine lv_aload_n hx hb dX0_framesOwnedBy_0 rfl (lv_at hl 0 rfl) ?_
  refine kr_cv (As := []) (rest := []) ⟨hx, hb, hml, hown, hts⟩ (k0_findOwners l G S hP hV) (cwV 0 hts gX0_141 rfl rfl rfl hX0_findOwners ⟨Nat.le_of_ble_eq_true rfl, Nat.le_of_ble_eq_true rfl⟩) hK hC rfl hl.1 rfl (Nat.le_of_ble_eq_true rfl) dX0_framesOwnedBy_1 ⟨Nat.zero_le _, Nat.zero_le _⟩ (fun S1 H locs hp hC => ?_)
  obtain ⟨o, hS1, ho⟩ := hp
  rw [hS1] at hC
  refine lv_iconst (v := (nI 0)) hx hb dX0_framesOwnedBy_4 (by decide +kernel) ?_
  refine lv_istore_n (lv' := [(2, .int (nI 0)), (0, .ref (kg_h G)), (1, .int x)]) hx hb dX0_framesOwnedBy_5 rfl hl (by decide) rfl (fun ls hl => ?_)
  refine lv_iconst (v := (nI 1)) hx hb dX0_framesOwnedBy_6 (by decide +kernel) ?_
  refine lv_istore_n (lv' := [(3, .int (nI 1)), (2, .int (nI 0)), (0, .ref (kg_h G)), (1, .int x)]) hx hb dX0_framesOwnedBy_7 rfl hl (by decide) rfl (fun ls hl => ?_)
  have loop : ∀ (n : Nat) (i : Nat) (d : Nat) (ls : Array Slot) (H : Heap) (locs : List Loc), i + n = 201 → 1 ≤ i → d = ct_b (fun i => decide (o (i + 1) = x)) (i - 1) → lv_has ls 4 [(3, .int (nI i)), (2, .int (nI d)), (0, .ref (kg_h G)), (1, .int x)] → kc_at G (kg_A G) s.heap (ks_uO S o) H locs → W p l e (headSpec wX0_framesOwnedBy ({ frames := 2, cells := 0, slots := 0, locals := 64 })).room s m [.ref (kg_h G), .int x].toArray below meth c H locs 0 0 (MQ below (va_Qi (fun (v : Int32) (S' : ks_T) => ∃ o, S' = ks_uO S o ∧ v = nI (ct_b (fun i => decide (o (i + 1) = x)) 200) ∧ ∀ f, f < 201 → ow_ok (ks_F S) (fun a b => a < 40 ∧ b + 1 < ks_P S a) f (o f)) (kc_q G) (kg_A G)) [.ref (kg_h G), .int x].toArray s 0 0 (kg_A G)) (F0 m 8 ls []) := by
    intro n
    induction n with
    | zero =>
      intro i d ls H locs hm h1 hc hl hC
      refine lv_iload_n hx hb dX0_framesOwnedBy_8 rfl (lv_at hl 0 rfl) ?_
      refine lv_sipush (v := (nI 200)) hx hb dX0_framesOwnedBy_9 (by decide +kernel) ?_
      refine wn_gt (tgt := 34) hx hb (by omega) (by omega) dX0_framesOwnedBy_12 rfl (fun _ => ?_) (fun h9 => absurd h9 (by omega))
      refine lv_iload_n hx hb dX0_framesOwnedBy_34 rfl (lv_at hl 1 rfl) ?_
      have e : i - 1 = 200 := by omega
      exact kr_iret hx hb hr hlk hC (⟨o, rfl, by rw [hc, e], ho⟩) dX0_framesOwnedBy_35
    | succ n ih =>
      intro i d ls H locs hm h1 hc hl hC
      refine lv_iload_n hx hb dX0_framesOwnedBy_8 rfl (lv_at hl 0 rfl) ?_
      refine lv_sipush (v := (nI 200)) hx hb dX0_framesOwnedBy_9 (by decide +kernel) ?_
      refine wn_gt (tgt := 34) hx hb (by omega) (by omega) dX0_framesOwnedBy_12 rfl (fun h9 => absurd h9 (by omega)) (fun _ => ?_)
      obtain ⟨j, rfl⟩ : ∃ j, i = j + 1 := ⟨i - 1, by omega⟩
      rw [Nat.add_sub_cancel] at hc
      refine lv_aload_n hx hb dX0_framesOwnedBy_15 rfl (lv_at hl 2 rfl) ?_
      refine kr_get hx hb hT kx_in hown hK hC 5 (by decide) (hT _ mw_30) rfl rfl dX0_framesOwnedBy_16 ?_
      refine lv_iload_n hx hb dX0_framesOwnedBy_19 rfl (lv_at hl 0 rfl) ?_
      refine kr_ldO hx hb hK hC (by omega) dX0_framesOwnedBy_20 ?_
      refine lv_iload_n hx hb dX0_framesOwnedBy_21 rfl (lv_at hl 3 rfl) ?_
      refine lv_icmp_ne (tgt := 28) hx hb dX0_framesOwnedBy_22 rfl (fun h3 => ?_) (fun h3 => ?_)
      · refine lv_iinc (lv' := [(3, .int (nI (j + 1 + 1))), (2, .int (nI d)), (0, .ref (kg_h G)), (1, .int x)]) (v := (nI (j + 1 + 1))) (k := 0) hx hb dX0_framesOwnedBy_28 hl rfl (nI_1 _) (by decide) rfl (fun ls hl => ?_)
        refine lv_goto (tgt := 8) hx hb dX0_framesOwnedBy_31 rfl ?_
        exact ih (j + 1 + 1) d ls H locs (by omega) (by omega) (by rw [hc, Nat.add_sub_cancel]; exact (ct_b_f (decide_eq_false h3)).symm) hl hC
      · refine lv_iinc (lv' := [(2, .int (nI (d + 1))), (3, .int (nI (j + 1))), (0, .ref (kg_h G)), (1, .int x)]) (v := (nI (d + 1))) (k := 1) hx hb dX0_framesOwnedBy_25 hl rfl (nI_1 _) (by decide) rfl (fun ls hl => ?_)
        refine lv_iinc (lv' := [(3, .int (nI (j + 1 + 1))), (2, .int (nI (d + 1))), (0, .ref (kg_h G)), (1, .int x)]) (v := (nI (j + 1 + 1))) (k := 1) hx hb dX0_framesOwnedBy_28 hl rfl (nI_1 _) (by decide) rfl (fun ls hl => ?_)
        refine lv_goto (tgt := 8) hx hb dX0_framesOwnedBy_31 rfl ?_
        exact ih (j + 1 + 1) (d + 1) ls H locs (by omega) (by omega) (by rw [hc, Nat.add_sub_cancel]; exact (ct_b_t (decide_eq_true h3)).symm) hl hC
  exact loop 200 1 0 ls H locs rfl (by omega) rfl hl hC
set_option maxHeartbeats 4000000 in
set_option maxRecDepth 100000 in
/-- firstWithCellsOf(f) -/
theorem k0_firstWithCellsOf (l : Launch) (G : kg_T) (S : ks_T) (f : Nat) (h1 : 1 ≤ f) (hf : f < 201) (hV : kv_c S) : Met l yX0_firstWithCellsOf wX0_firstWithCellsOf ({ frames := 1, cells := 0, slots := 0, locals := 32 }) (va_Pc [.ref (kg_h G), .int (nI f)] (kc_p G S)) (va_Qi (fun (v : Int32) (S' : ks_T) => v = nI (ks_fw S f) ∧ S' = S) (kc_q G) (kg_A G)) 0 0 (kg_A G) := by
  refine Met.ofW (cc := cX0_firstWithCellsOf) (maxL := 3) (ret := (some .int)) (by decide) rfl ?_
  intro p e s m args below meth c s₁ B hml hv
  obtain ⟨rfl, hv⟩ := hv
  have hx := B.exec
  have hb := B.bytes
  have hr := B.returns
  have hlk := B.notSynchronized
  have hts := atoms_spec (ws := wX0_firstWithCellsOf) B.pre
  have hT : ∀ w ∈ nw_T, w.before _ s = true := fun w h => hts w (List.mem_cons_of_mem _ h)
  have hown : s.vm.findClass RX0 = some m.cls := findClass_of_methodNamed B.named
  have hK : kc_K G s := hv.2.2
  have hC := kc_start hv
  have hl := lv_entry ([.ref (kg_h G), .int (nI f)]) (n := 3) (Nat.le_of_ble_eq_true rfl)
  rw [lg_entry_eq]
  generalize (lg_sl ([.ref (kg_h G), .int (nI f)]) ++ List.replicate (3 - (lg_sl ([.ref (kg_h G), .int (nI f)])).length) Slot.unset).toArray = ls at hl ⊢
  have hl : lv_has ls 3 [(0, .ref (kg_h G)), (1, .int (nI f))] := hl
  refine lv_iconst (v := (nI 1)) hx hb dX0_firstWithCellsOf_0 (by decide +kernel) ?_
  refine lv_istore_n (lv' := [(2, .int (nI (0 + 1))), (0, .ref (kg_h G)), (1, .int (nI f))]) hx hb dX0_firstWithCellsOf_1 rfl hl (by decide) rfl (fun ls hl => ?_)
  have loop : ∀ (n : Nat) (i : Nat) (ls : Array Slot) (H : Heap) (locs : List Loc), i + n = f - 1 → (∀ j, j < i → ks_q1 S f j = false) → lv_has ls 3 [(2, .int (nI (i + 1))), (0, .ref (kg_h G)), (1, .int (nI f))] → kc_at G (kg_A G) s.heap S H locs → W p l e (headSpec wX0_firstWithCellsOf ({ frames := 1, cells := 0, slots := 0, locals := 32 })).room s m [.ref (kg_h G), .int (nI f)].toArray below meth c H locs 0 0 (MQ below (va_Qi (fun (v : Int32) (S' : ks_T) => v = nI (ks_fw S f) ∧ S' = S) (kc_q G) (kg_A G)) [.ref (kg_h G), .int (nI f)].toArray s 0 0 (kg_A G)) (F0 m 2 ls []) := by
    intro n
    induction n with
    | zero =>
      intro i ls H locs hm hI hl hC
      refine lv_iload_n hx hb dX0_firstWithCellsOf_2 rfl (lv_at hl 0 rfl) ?_
      refine lv_iload_n hx hb dX0_firstWithCellsOf_3 rfl (lv_at hl 2 rfl) ?_
      refine wn_ge (tgt := 33) hx hb (by omega) (by omega) dX0_firstWithCellsOf_4 rfl (fun _ => ?_) (fun h9 => absurd h9 (by omega))
      refine lv_iload_n hx hb dX0_firstWithCellsOf_33 rfl (lv_at hl 2 rfl) ?_
      have e : ks_fw S f = f := by unfold ks_fw; rw [ls_none (fun j hj => hI j (by omega))]; omega
      exact kr_iret hx hb hr hlk hC (⟨by rw [e], rfl⟩) dX0_firstWithCellsOf_34
    | succ n ih =>
      intro i ls H locs hm hI hl hC
      refine lv_iload_n hx hb dX0_firstWithCellsOf_2 rfl (lv_at hl 0 rfl) ?_
      refine lv_iload_n hx hb dX0_firstWithCellsOf_3 rfl (lv_at hl 2 rfl) ?_
      refine wn_ge (tgt := 33) hx hb (by omega) (by omega) dX0_firstWithCellsOf_4 rfl (fun h9 => absurd h9 (by omega)) (fun _ => ?_)
      have hb1 := kv_le hV (show i + 1 < 201 by omega)
      refine lv_aload_n hx hb dX0_firstWithCellsOf_7 rfl (lv_at hl 1 rfl) ?_
      refine kr_get hx hb hT kx_in hown hK hC 3 (by decide) (hT _ mw_28) rfl rfl dX0_firstWithCellsOf_8 ?_
      refine lv_iload_n hx hb dX0_firstWithCellsOf_11 rfl (lv_at hl 0 rfl) ?_
      refine kr_ldH hx hb hK hC (by omega) dX0_firstWithCellsOf_12 ?_
      refine wn_ifle (tgt := 27) hx hb (by omega) dX0_firstWithCellsOf_13 rfl (fun h3 => ?_) (fun h3 => ?_)
      · refine lv_iinc (lv' := [(2, .int (nI (i + 1 + 1))), (0, .ref (kg_h G)), (1, .int (nI f))]) (v := (nI (i + 1 + 1))) (k := 0) hx hb dX0_firstWithCellsOf_27 hl rfl (nI_1 _) (by decide) rfl (fun ls hl => ?_)
        refine lv_goto (tgt := 2) hx hb dX0_firstWithCellsOf_30 rfl ?_
        exact ih (i + 1) ls H locs (by omega) (lt_s hI (by unfold ks_q1; rw [h3]; rfl)) hl hC
      · refine lv_aload_n hx hb dX0_firstWithCellsOf_16 rfl (lv_at hl 1 rfl) ?_
        refine lv_iload_n hx hb dX0_firstWithCellsOf_17 rfl (lv_at hl 0 rfl) ?_
        refine lv_iload_n hx hb dX0_firstWithCellsOf_18 rfl (lv_at hl 2 rfl) ?_
        refine kr_ci (As := [.int (nI (i + 1)), .int (nI f)]) (rest := []) ⟨hx, hb, hml, hown, hts⟩ (k0_sameCells l G S (i + 1) f (by omega) hf) (cwV 2 hts gX0_83 rfl rfl rfl hX0_sameCells ⟨Nat.le_of_ble_eq_true rfl, Nat.le_of_ble_eq_true rfl⟩) hK hC rfl hl.1 rfl (Nat.le_of_ble_eq_true rfl) dX0_firstWithCellsOf_19 ⟨Nat.zero_le _, Nat.zero_le _⟩ (fun v S1 H locs hp hC => ?_)
        obtain ⟨hv1, hS1⟩ := hp
        rw [hS1] at hC
        refine lv_if_eq (tgt := 27) hx hb dX0_firstWithCellsOf_22 rfl (fun h4 => ?_) (fun h4 => ?_)
        · have e : ks_same S (i + 1) f = false := by
            cases hb : ks_same S (i + 1) f
            · rfl
            · rw [hv1, hb] at h4; exact absurd h4 (by decide)
          refine lv_iinc (lv' := [(2, .int (nI (i + 1 + 1))), (0, .ref (kg_h G)), (1, .int (nI f))]) (v := (nI (i + 1 + 1))) (k := 0) hx hb dX0_firstWithCellsOf_27 hl rfl (nI_1 _) (by decide) rfl (fun ls hl => ?_)
          refine lv_goto (tgt := 2) hx hb dX0_firstWithCellsOf_30 rfl ?_
          exact ih (i + 1) ls H locs (by omega) (lt_s hI (by unfold ks_q1; rw [e, Bool.and_false])) hl hC
        · have e : ks_same S (i + 1) f = true := by
            cases hb : ks_same S (i + 1) f
            · rw [hv1, hb] at h4; exact absurd rfl h4
            · rfl
          have e2 : ks_fw S f = i + 1 := by
            unfold ks_fw
            rw [ls_is (k := i) (by omega) (by unfold ks_q1; rw [e, decide_eq_true h3]; rfl) hI]
            omega
          refine lv_iload_n hx hb dX0_firstWithCellsOf_25 rfl (lv_at hl 0 rfl) ?_
          exact kr_iret hx hb hr hlk hC (⟨by rw [e2], rfl⟩) dX0_firstWithCellsOf_26
  exact loop (f - 1) 0 ls s.heap [] (by omega) lt_0 hl hC
set_option maxHeartbeats 4000000 in
set_option maxRecDepth 100000 in
/-- findKeepers() -/
theorem k0_findKeepers (l : Launch) (G : kg_T) (S : ks_T) (hV : kv_c S) : Met l yX0_findKeepers wX0_findKeepers ({ frames := 2, cells := 0, slots := 0, locals := 64 }) (va_Pc [.ref (kg_h G)] (kc_p G S)) (va_Qv (fun S' : ks_T => ∃ o, S' = ks_uK S o ∧ ∀ f, f < 201 → o f = nI (ks_ke S f)) (kc_q G) (kg_A G)) 0 0 (kg_A G) := by
  refine Met.ofW (cc := cX0_findKeepers) (maxL := 2) (ret := none) (by decide) rfl ?_
  intro p e s m args below meth c s₁ B hml hv
  obtain ⟨rfl, hv⟩ := hv
  have hx := B.exec
  have hb := B.bytes
  have hr := B.returns
  have hlk := B.notSynchronized
  have hts := atoms_spec (ws := wX0_findKeepers) B.pre
  have hT : ∀ w ∈ nw_T, w.before _ s = true := fun w h => hts w (List.mem_cons_of_mem _ h)
  have hown : s.vm.findClass RX0 = some m.cls := findClass_of_methodNamed B.named
  have hK : kc_K G s := hv.2.2
  have hC := kc_start hv
  have hl := lv_entry ([.ref (kg_h G)]) (n := 2) (Nat.le_of_ble_eq_true rfl)
  rw [lg_entry_eq]
  generalize (lg_sl ([.ref (kg_h G)]) ++ List.replicate (2 - (lg_sl ([.ref (kg_h G)])).length) Slot.unset).toArray = ls at hl ⊢
  have hl : lv_has ls 2 [(0, .ref (kg_h G))] := hl
  refine lv_aload_n hx hb dX0_findKeepers_0 rfl (lv_at hl 0 rfl) ?_
  refine kr_get hx hb hT kx_in hown hK hC 6 (by decide) (hT _ mw_31) rfl rfl dX0_findKeepers_1 ?_
  refine lv_iconst (v := (nI 0)) hx hb dX0_findKeepers_4 (by decide +kernel) ?_
  refine lv_iconst (v := (nI 0)) hx hb dX0_findKeepers_5 (by decide +kernel) ?_
  refine kr_stK hx hb hK hC (by omega) dX0_findKeepers_6 (fun H locs hC => ?_)
  have hC : kc_at G (kg_A G) s.heap (ks_uK S (upd (ks_K S) 0 (nI 0))) _ _ := hC
  refine lv_iconst (v := (nI 1)) hx hb dX0_findKeepers_7 (by decide +kernel) ?_
  refine lv_istore_n (lv' := [(1, .int (nI 1)), (0, .ref (kg_h G))]) hx hb dX0_findKeepers_8 rfl hl (by decide) rfl (fun ls hl => ?_)
  have loop : ∀ (n : Nat) (i : Nat) (o : Nat → Int32) (ls : Array Slot) (H : Heap) (locs : List Loc), i + n = 201 → 1 ≤ i → (∀ f, f < i → o f = nI (ks_ke S f)) → lv_has ls 2 [(1, .int (nI i)), (0, .ref (kg_h G))] → kc_at G (kg_A G) s.heap (ks_uK S o) H locs → W p l e (headSpec wX0_findKeepers ({ frames := 2, cells := 0, slots := 0, locals := 64 })).room s m [.ref (kg_h G)].toArray below meth c H locs 0 0 (MQ below (va_Qv (fun S' : ks_T => ∃ o, S' = ks_uK S o ∧ ∀ f, f < 201 → o f = nI (ks_ke S f)) (kc_q G) (kg_A G)) [.ref (kg_h G)].toArray s 0 0 (kg_A G)) (F0 m 9 ls []) := by
    intro n
    induction n with
    | zero =>
      intro i o ls H locs hm h1 hI hl hC
      refine lv_iload_n hx hb dX0_findKeepers_9 rfl (lv_at hl 0 rfl) ?_
      refine lv_sipush (v := (nI 200)) hx hb dX0_findKeepers_10 (by decide +kernel) ?_
      refine wn_gt (tgt := 46) hx hb (by omega) (by omega) dX0_findKeepers_13 rfl (fun _ => ?_) (fun h9 => absurd h9 (by omega))
      exact kr_vret hx hb hr hlk hC (⟨o, rfl, fun f hf => hI f (by omega)⟩) dX0_findKeepers_46
    | succ n ih =>
      intro i o ls H locs hm h1 hI hl hC
      refine lv_iload_n hx hb dX0_findKeepers_9 rfl (lv_at hl 0 rfl) ?_
      refine lv_sipush (v := (nI 200)) hx hb dX0_findKeepers_10 (by decide +kernel) ?_
      refine wn_gt (tgt := 46) hx hb (by omega) (by omega) dX0_findKeepers_13 rfl (fun h9 => absurd h9 (by omega)) (fun _ => ?_)
      have hb1 : ks_H S i < 2 ^ 31 := kv_le hV (by omega)
      refine lv_aload_n hx hb dX0_findKeepers_16 rfl (lv_at hl 1 rfl) ?_
      refine kr_get hx hb hT kx_in hown hK hC 6 (by decide) (hT _ mw_31) rfl rfl dX0_findKeepers_17 ?_
      refine lv_iload_n hx hb dX0_findKeepers_20 rfl (lv_at hl 0 rfl) ?_
      refine lv_aload_n hx hb dX0_findKeepers_21 rfl (lv_at hl 1 rfl) ?_
      refine kr_get hx hb hT kx_in hown hK hC 3 (by decide) (hT _ mw_28) rfl rfl dX0_findKeepers_22 ?_
      refine lv_iload_n hx hb dX0_findKeepers_25 rfl (lv_at hl 0 rfl) ?_
      refine kr_ldH hx hb hK hC (by omega) dX0_findKeepers_26 ?_
      have hst : ks_H (ks_uK S o) i = ks_H S i := rfl
      rw [hst]
      refine wn_if1 (tgt := 34) hx hb (by omega) dX0_findKeepers_27 rfl (fun h3 => ?_) (fun h3 => ?_)
      · refine lv_aload_n hx hb dX0_findKeepers_34 rfl (lv_at hl 1 rfl) ?_
        refine lv_iload_n hx hb dX0_findKeepers_35 rfl (lv_at hl 0 rfl) ?_
        refine kr_ci (As := [.int (nI i)]) (rest := [.int (nI i), .ref (kg_a G 4)]) ⟨hx, hb, hml, hown, hts⟩ (k0_firstWithCellsOf l G (ks_uK S o) i h1 (by omega) hV) (cwV 1 hts gX0_135 rfl rfl rfl hX0_firstWithCellsOf ⟨Nat.le_of_ble_eq_true rfl, Nat.le_of_ble_eq_true rfl⟩) hK hC rfl hl.1 rfl (Nat.le_of_ble_eq_true rfl) dX0_findKeepers_36 ⟨Nat.zero_le _, Nat.zero_le _⟩ (fun v S1 H locs hp hC => ?_)
        obtain ⟨hv1, hS1⟩ := hp
        rw [hS1] at hC
        refine kr_stK hx hb hK hC (by omega) dX0_findKeepers_39 (fun H locs hC => ?_)
        have hC : kc_at G (kg_A G) s.heap (ks_uK S (upd o i v)) H locs := hC
        refine lv_iinc (lv' := [(1, .int (nI (i + 1))), (0, .ref (kg_h G))]) (v := (nI (i + 1))) (k := 0) hx hb dX0_findKeepers_40 hl rfl (nI_1 _) (by decide) rfl (fun ls hl => ?_)
        refine lv_goto (tgt := 9) hx hb dX0_findKeepers_43 rfl ?_
        exact ih (i + 1) (upd o i v) ls H locs (by omega) (by omega) (lt_s (fun f hf => by rw [← hI f hf]; exact if_neg (by omega)) (by
            show upd o i v i = _
            unfold ks_ke
            rw [if_neg h3]
            exact (if_pos rfl).trans hv1)) hl hC
      · refine lv_iload_n hx hb dX0_findKeepers_30 rfl (lv_at hl 0 rfl) ?_
        refine lv_goto (tgt := 39) hx hb dX0_findKeepers_31 rfl ?_
        refine kr_stK hx hb hK hC (by omega) dX0_findKeepers_39 (fun H locs hC => ?_)
        have hC : kc_at G (kg_A G) s.heap (ks_uK S (upd o i (nI i))) H locs := hC
        refine lv_iinc (lv' := [(1, .int (nI (i + 1))), (0, .ref (kg_h G))]) (v := (nI (i + 1))) (k := 0) hx hb dX0_findKeepers_40 hl rfl (nI_1 _) (by decide) rfl (fun ls hl => ?_)
        refine lv_goto (tgt := 9) hx hb dX0_findKeepers_43 rfl ?_
        exact ih (i + 1) (upd o i (nI i)) ls H locs (by omega) (by omega) (lt_s (fun f hf => by rw [← hI f hf]; exact if_neg (by omega)) (by
            show upd o i (nI i) i = _
            unfold ks_ke
            rw [if_pos h3]
            exact if_pos rfl)) hl hC
  exact loop 200 1 (upd (ks_K S) 0 (nI 0)) ls _ _ rfl (by omega) (fun f hf => by
    rw [show f = 0 by omega]
    show nI 0 = nI (ks_ke S 0)
    unfold ks_ke
    rw [if_pos hV.2.2]) hl hC
set_option maxHeartbeats 4000000 in
set_option maxRecDepth 100000 in
/-- blankFrom(r, a) -/
theorem k0_blankFrom (l : Launch) (G : kg_T) (S : ks_T) (r a k : Nat) (h40 : r < 40) (hk : ks_P S r = k + 1) (h33 : k ≤ 32) (ha : a ≤ 32) (hV : kv_c S) : Met l yX0_blankFrom wX0_blankFrom ({ frames := 2, cells := 0, slots := 0, locals := 64 }) (va_Pc [.ref (kg_h G), .int (nI r), .int (nI a)] (kc_p G S)) (va_Qi (fun (v : Int32) (S' : ks_T) => v = nI (kb_w S r a (k - a)) ∧ S' = ks_bf S r a (k - a)) (kc_q G) (kg_A G)) 0 0 (kg_A G) := by
  refine Met.ofW (cc := cX0_blankFrom) (maxL := 5) (ret := (some .int)) (by decide) rfl ?_
  intro p e s m args below meth c s₁ B hml hv
  obtain ⟨rfl, hv⟩ := hv
  have hx := B.exec
  have hb := B.bytes
  have hr := B.returns
  have hlk := B.notSynchronized
  have hts := atoms_spec (ws := wX0_blankFrom) B.pre
  have hT : ∀ w ∈ nw_T, w.before _ s = true := fun w h => hts w (List.mem_cons_of_mem _ h)
  have hown : s.vm.findClass RX0 = some m.cls := findClass_of_methodNamed B.named
  have hK : kc_K G s := hv.2.2
  have hC := kc_start hv
  have hl := lv_entry ([.ref (kg_h G), .int (nI r), .int (nI a)]) (n := 5) (Nat.le_of_ble_eq_true rfl)
  rw [lg_entry_eq]
  generalize (lg_sl ([.ref (kg_h G), .int (nI r), .int (nI a)]) ++ List.replicate (5 - (lg_sl ([.ref (kg_h G), .int (nI r), .int (nI a)])).length) Slot.unset).toArray = ls at hl ⊢
  have hl : lv_has ls 5 [(0, .ref (kg_h G)), (1, .int (nI r)), (2, .int (nI a))] := hl
  refine lv_iconst (v := (nI 0)) hx hb dX0_blankFrom_0 (by decide +kernel) ?_
  refine lv_istore_n (lv' := [(3, .int (nI 0)), (0, .ref (kg_h G)), (1, .int (nI r)), (2, .int (nI a))]) hx hb dX0_blankFrom_1 rfl hl (by decide) rfl (fun ls hl => ?_)
  refine lv_iload_n hx hb dX0_blankFrom_2 rfl (lv_at hl 3 rfl) ?_
  refine lv_istore (lv' := [(4, .int (nI a)), (3, .int (nI 0)), (0, .ref (kg_h G)), (1, .int (nI r)), (2, .int (nI a))]) hx hb dX0_blankFrom_3 hl (by decide) rfl (fun ls hl => ?_)
  have hl : lv_has ls 5 [(4, .int (nI (a + 0))), (3, .int (nI (kb_w S r a 0))), (0, .ref (kg_h G)), (1, .int (nI r)), (2, .int (nI a))] := hl
  have hC : kc_at G (kg_A G) s.heap (ks_bf S r a 0) s.heap [] := hC
  have loop : ∀ (n : Nat) (i : Nat) (ls : Array Slot) (H : Heap) (locs : List Loc), i + n = k - a → i ≤ k - a → lv_has ls 5 [(4, .int (nI (a + i))), (3, .int (nI (kb_w S r a i))), (0, .ref (kg_h G)), (1, .int (nI r)), (2, .int (nI a))] → kc_at G (kg_A G) s.heap (ks_bf S r a i) H locs → W p l e (headSpec wX0_blankFrom ({ frames := 2, cells := 0, slots := 0, locals := 64 })).room s m [.ref (kg_h G), .int (nI r), .int (nI a)].toArray below meth c H locs 0 0 (MQ below (va_Qi (fun (v : Int32) (S' : ks_T) => v = nI (kb_w S r a (k - a)) ∧ S' = ks_bf S r a (k - a)) (kc_q G) (kg_A G)) [.ref (kg_h G), .int (nI r), .int (nI a)].toArray s 0 0 (kg_A G)) (F0 m 5 ls []) := by
    intro n
    induction n with
    | zero =>
      intro i ls H locs hm hi hl hC
      have ek : ks_e (ks_P (ks_bf S r a i) r) = nI k := by rw [ks_bf_P, ks_es (by omega), hk]; rfl
      refine lv_iload hx hb dX0_blankFrom_5 (lv_at hl 0 rfl) ?_
      refine lv_aload_n hx hb dX0_blankFrom_7 rfl (lv_at hl 2 rfl) ?_
      refine kr_get hx hb hT kx_in hown hK hC 0 (by decide) (hT _ mw_25) rfl rfl dX0_blankFrom_8 ?_
      refine lv_iload_n hx hb dX0_blankFrom_11 rfl (lv_at hl 3 rfl) ?_
      refine kr_ldP hx hb hK hC (by omega) dX0_blankFrom_12 ?_
      rw [ek]
      refine wn_ge (tgt := 33) hx hb (by omega) (by omega) dX0_blankFrom_13 rfl (fun _ => ?_) (fun h9 => absurd h9 (by omega))
      refine lv_iload_n hx hb dX0_blankFrom_33 rfl (lv_at hl 1 rfl) ?_
      have e : i = k - a := by omega
      exact kr_iret hx hb hr hlk hC (⟨by rw [e], by rw [e]⟩) dX0_blankFrom_34
    | succ n ih =>
      intro i ls H locs hm hi hl hC
      have ek : ks_e (ks_P (ks_bf S r a i) r) = nI k := by rw [ks_bf_P, ks_es (by omega), hk]; rfl
      refine lv_iload hx hb dX0_blankFrom_5 (lv_at hl 0 rfl) ?_
      refine lv_aload_n hx hb dX0_blankFrom_7 rfl (lv_at hl 2 rfl) ?_
      refine kr_get hx hb hT kx_in hown hK hC 0 (by decide) (hT _ mw_25) rfl rfl dX0_blankFrom_8 ?_
      refine lv_iload_n hx hb dX0_blankFrom_11 rfl (lv_at hl 3 rfl) ?_
      refine kr_ldP hx hb hK hC (by omega) dX0_blankFrom_12 ?_
      rw [ek]
      refine wn_ge (tgt := 33) hx hb (by omega) (by omega) dX0_blankFrom_13 rfl (fun h9 => absurd h9 (by omega)) (fun _ => ?_)
      have hVi : kv_c (ks_bf S r a i) := kv_bf hV h40 i (by omega)
      refine lv_iload_n hx hb dX0_blankFrom_16 rfl (lv_at hl 1 rfl) ?_
      refine lv_aload_n hx hb dX0_blankFrom_17 rfl (lv_at hl 2 rfl) ?_
      refine lv_iload_n hx hb dX0_blankFrom_18 rfl (lv_at hl 3 rfl) ?_
      refine lv_iload hx hb dX0_blankFrom_19 (lv_at hl 0 rfl) ?_
      refine lv_iconst (v := (nI 0)) hx hb dX0_blankFrom_21 (by decide +kernel) ?_
      refine kr_ci (As := [.int (nI r), .int (nI (a + i)), .int (nI 0)]) (rest := [.int (nI (kb_w S r a i))]) ⟨hx, hb, hml, hown, hts⟩ (k0_pointTo l G (ks_bf S r a i) r (a + i) 0 h40 (by omega) (by omega) (hVi.1 r (a + i) h40 (by omega)) (kv_h1 hVi 0 h40 (by omega)) (kv_h2 hVi 0 h40 (by omega))) (cwV 3 hts gX0_51 rfl rfl rfl hX0_pointTo ⟨Nat.le_of_ble_eq_true rfl, Nat.le_of_ble_eq_true rfl⟩) hK hC rfl hl.1 rfl (Nat.le_of_ble_eq_true rfl) dX0_blankFrom_22 ⟨Nat.zero_le _, Nat.zero_le _⟩ (fun v S1 H locs hp hC => ?_)
      obtain ⟨rfl, hS1⟩ := hp
      rw [hS1] at hC
      refine wn_add hx hb dX0_blankFrom_25 ?_
      refine lv_istore_n (lv' := [(3, .int (nI ((kb_w S r a i) + (kp_w (kp_h (ks_H (ks_bf S r a i)) 0) (ks_F (ks_bf S r a i) r (a + i)))))), (4, .int (nI (a + i))), (0, .ref (kg_h G)), (1, .int (nI r)), (2, .int (nI a))]) hx hb dX0_blankFrom_26 rfl hl (by decide) rfl (fun ls hl => ?_)
      refine lv_iinc (lv' := [(4, .int (nI (a + i + 1))), (3, .int (nI ((kb_w S r a i) + (kp_w (kp_h (ks_H (ks_bf S r a i)) 0) (ks_F (ks_bf S r a i) r (a + i)))))), (0, .ref (kg_h G)), (1, .int (nI r)), (2, .int (nI a))]) (v := (nI (a + i + 1))) (k := 1) hx hb dX0_blankFrom_27 hl rfl (nI_1 _) (by decide) rfl (fun ls hl => ?_)
      refine lv_goto (tgt := 5) hx hb dX0_blankFrom_30 rfl ?_
      have hl := lv_sub (l' := [(4, .int (nI (a + (i + 1)))), (3, .int (nI (kb_w S r a (i + 1)))), (0, .ref (kg_h G)), (1, .int (nI r)), (2, .int (nI a))]) hl [0, 1, 2, 3, 4] rfl
      exact ih (i + 1) ls H locs (by omega) (by omega) hl hC
  exact loop (k - a) 0 ls s.heap [] (by omega) (by omega) hl hC
set_option maxHeartbeats 4000000 in
set_option maxRecDepth 100000 in
/-- giveNewFrame(r, q) -/
theorem k0_giveNewFrame (l : Launch) (hl0 : l.stackTraces = false) (G : kg_T) (S : ks_T) (r q : Nat) (h40 : r < 40) (h32 : q < 32) (hV : kv_c S) : vx_Met l yX0_giveNewFrame wX0_giveNewFrame ({ frames := 7, cells := 1, slots := 6, locals := 122 }) (va_Pc [.ref (kg_h G), .int (nI r), .int (nI q)] (kc_px G S)) (va_Qv (fun S' : ks_T => ∃ f, 1 ≤ f ∧ f < 201 ∧ ks_H S f = 0 ∧ (∀ j, 1 ≤ j → j < f → ks_H S j ≠ 0) ∧ S' = ks_pt (ks_cp S (ks_F S r q) f) r q f) (kc_q G) (kg_A G)) (kc_xx G S (fun E : String => E = kx_ae ∧ ∀ j, 1 ≤ j → j < 201 → ks_H S j ≠ 0)) 1 6 (kg_A G) := by
  refine vx_ofW (cc := cX0_giveNewFrame) (maxL := 4) (ret := none) (by decide) rfl ?_
  intro p e s m args below meth c s₁ B hml ht hv
  obtain ⟨rfl, hv⟩ := hv
  have hx := B.exec
  have hb := B.bytes
  have hr := B.returns
  have hlk := B.notSynchronized
  have hts := atoms_spec (ws := wX0_giveNewFrame) B.pre
  have hT : ∀ w ∈ nw_T, w.before _ s = true := fun w h => hts w (List.mem_cons_of_mem _ h)
  have hown : s.vm.findClass RX0 = some m.cls := findClass_of_methodNamed B.named
  have hK : kc_K G s := hv.1.2.2
  have hX := hv.2
  have hC := kc_start hv.1
  have hl := lv_entry ([.ref (kg_h G), .int (nI r), .int (nI q)]) (n := 4) (Nat.le_of_ble_eq_true rfl)
  rw [lg_entry_eq]
  generalize (lg_sl ([.ref (kg_h G), .int (nI r), .int (nI q)]) ++ List.replicate (4 - (lg_sl ([.ref (kg_h G), .int (nI r), .int (nI q)])).length) Slot.unset).toArray = ls at hl ⊢
  have hl : lv_has ls 4 [(0, .ref (kg_h G)), (1, .int (nI r)), (2, .int (nI q))] := hl
  refine lv_aload_n hx hb dX0_giveNewFrame_0 rfl (lv_at hl 0 rfl) ?_
  refine kr_xi (As := []) (rest := []) ⟨hx, hb, hml, hown, hts⟩ (k0_requireFreeFrame l hl0 G S (fun f hf => kv_le hV hf)) (cwV 0 hts gX0_126 rfl rfl rfl hX0_requireFreeFrame ⟨Nat.le_of_ble_eq_true rfl, Nat.le_of_ble_eq_true rfl⟩) hK hX hC rfl hl.1 rfl (Nat.le_of_ble_eq_true rfl) dX0_giveNewFrame_1 ⟨Nat.le_of_ble_eq_true rfl, Nat.le_of_ble_eq_true rfl⟩ (fun E ce q9 H locs hpe hC hce hcv hcl => kr_out ht hlk (hpe) hC hce hcv hcl (Nat.le_of_ble_eq_true rfl) (Nat.le_of_ble_eq_true rfl)) (fun v S1 H locs hp hC => ?_)
  obtain ⟨⟨f, h1, hf, rfl, hf0, hfm⟩, hS1⟩ := hp
  rw [hS1] at hC
  have hF := hV.1 r q h40 h32
  refine lv_istore_n (lv' := [(3, .int (nI f)), (0, .ref (kg_h G)), (1, .int (nI r)), (2, .int (nI q))]) hx hb dX0_giveNewFrame_4 rfl hl (by decide) rfl (fun ls hl => ?_)
  refine lv_aload_n hx hb dX0_giveNewFrame_5 rfl (lv_at hl 1 rfl) ?_
  refine kr_get hx hb hT kx_in hown hK hC 2 (by decide) (hT _ mw_27) rfl rfl dX0_giveNewFrame_6 ?_
  refine lv_aload_n hx hb dX0_giveNewFrame_9 rfl (lv_at hl 1 rfl) ?_
  refine kr_get hx hb hT kx_in hown hK hC 1 (by decide) (hT _ mw_26) rfl rfl dX0_giveNewFrame_10 ?_
  refine lv_iload_n hx hb dX0_giveNewFrame_13 rfl (lv_at hl 2 rfl) ?_
  refine kr_aF hx hb hK hC (by omega) dX0_giveNewFrame_14 ?_
  refine lv_iload_n hx hb dX0_giveNewFrame_15 rfl (lv_at hl 3 rfl) ?_
  refine kr_ldF hx hb hK hC (by omega) (by omega) dX0_giveNewFrame_16 ?_
  refine kr_aC hx hb hK hC (by omega) dX0_giveNewFrame_17 ?_
  refine lv_iconst (v := (nI 0)) hx hb dX0_giveNewFrame_18 (by decide +kernel) ?_
  refine lv_aload_n hx hb dX0_giveNewFrame_19 rfl (lv_at hl 1 rfl) ?_
  refine kr_get hx hb hT kx_in hown hK hC 2 (by decide) (hT _ mw_27) rfl rfl dX0_giveNewFrame_20 ?_
  refine lv_iload_n hx hb dX0_giveNewFrame_23 rfl (lv_at hl 0 rfl) ?_
  refine kr_aC hx hb hK hC (by omega) dX0_giveNewFrame_24 ?_
  refine lv_iconst (v := (nI 0)) hx hb dX0_giveNewFrame_25 (by decide +kernel) ?_
  refine lv_bipush (v := (nI 8)) hx hb dX0_giveNewFrame_26 (by decide +kernel) ?_
  refine kr_copy hx hb (hml.trans hl.1.symm) hown (hT _ mw_289) (hT _ mw_291) (hT _ mw_290) (hT _ mw_11) hK hC hF hf (Nat.le_of_ble_eq_true rfl) (Nat.le_of_ble_eq_true rfl) dX0_giveNewFrame_28 (fun H locs hC => ?_)
  have hVc : kv_c (ks_cp S (ks_F S r q) f) := hV
  refine lv_aload_n hx hb dX0_giveNewFrame_31 rfl (lv_at hl 1 rfl) ?_
  refine lv_iload_n hx hb dX0_giveNewFrame_32 rfl (lv_at hl 2 rfl) ?_
  refine lv_iload_n hx hb dX0_giveNewFrame_33 rfl (lv_at hl 3 rfl) ?_
  refine lv_iload_n hx hb dX0_giveNewFrame_34 rfl (lv_at hl 0 rfl) ?_
  refine kr_ci (As := [.int (nI r), .int (nI q), .int (nI f)]) (rest := []) ⟨hx, hb, hml, hown, hts⟩ (k0_pointTo l G (ks_cp S (ks_F S r q) f) r q f h40 h32 hf hF (kv_h1 hVc f h40 h32) (kv_h2 hVc f h40 h32)) (cwV 3 hts gX0_51 rfl rfl rfl hX0_pointTo ⟨Nat.le_of_ble_eq_true rfl, Nat.le_of_ble_eq_true rfl⟩) hK hC rfl hl.1 rfl (Nat.le_of_ble_eq_true rfl) dX0_giveNewFrame_35 ⟨Nat.le_of_ble_eq_true rfl, Nat.le_of_ble_eq_true rfl⟩ (fun v S1 H locs hp hC => ?_)
  obtain ⟨hv1, hS1⟩ := hp
  rw [hS1] at hC
  refine lv_pop hx hb dX0_giveNewFrame_38 rfl ?_
  exact kr_xvret hx hb hr hlk hC (⟨f, h1, hf, hf0, hfm, rfl⟩) dX0_giveNewFrame_39 (Nat.le_of_ble_eq_true rfl) (Nat.le_of_ble_eq_true rfl)
