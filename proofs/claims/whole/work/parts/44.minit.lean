/-! the reference's constructor (laid by program) -/
def ms_0 : ms_T := (0, fun _ => 0, fun _ => 0, fun _ => 1, fun _ => nI 0, fun _ => nI 0)
def mi_p (D : va_G) (I Z : ClassId) (h sz : Nat) (U : State) : Prop := U.heap.size = sz ∧ va_P D vwCl [(h, .inr (1, [.int (nI 0), .null, .null, .null, .null, .null]))] U.heap ∧ va_K D vwCl [(I, .int), (Z, .boolean)] U ∧ h < sz
def mi_q (D : va_G) (I Z : ClassId) (h sz : Nat) (G : mg_T) : Prop := mg_D G = D ∧ mg_I G = I ∧ mg_Z G = Z ∧ mg_h G = h ∧ ∀ k, k < 5 → sz ≤ mg_a G k
theorem mi_blind {D : va_G} {I Z : ClassId} {h sz : Nat} {av : List Value} : FrameBlind (va_Pc av (mi_p D I Z h sz)) := fun a U g mk q => ⟨q.1, q.2.1, q.2.2.1, va_K.moved (u := U) (U := U.calling g mk a) (Vm.Alike.refl U.vm) q.2.2.2.1, q.2.2.2.2⟩
theorem d1_D {A : Nat → Prop} {x : Nat × va_E} (h : A x.1) : va_D A [x] := ⟨fun i j p q hi hj _ => by
    have h1 : i < 1 := (List.getElem?_eq_some_iff.mp hi).1
    have h2 : j < 1 := (List.getElem?_eq_some_iff.mp hj).1
    omega, fun k q hk => by
    have h1 : k < 1 := (List.getElem?_eq_some_iff.mp hk).1
    rw [show k = 0 by omega] at hk
    cases hk
    exact h⟩
set_option maxHeartbeats 4000000 in
set_option maxRecDepth 100000 in
theorem k1_init (l : Launch) (D : va_G) (I Z : ClassId) (h sz : Nat) : Met l yX1_init wX1_init ({ frames := 1, cells := 5, slots := 2992, locals := 32 }) (va_Pc [.ref h] (mi_p D I Z h sz)) (va_Qv (mi_q D I Z h sz) (fun (G : mg_T) (t : State) => va_P (mg_D G) vwCl (mc_L G ms_0) t.heap ∧ va_D (mg_A G) (mc_L G ms_0)) (fun q => q = h ∨ sz ≤ q)) 5 2992 (fun q => q = h ∨ sz ≤ q) := by
  refine Met.ofW (cc := cX1_init) (maxL := 1) (ret := none) (by decide) rfl ?_
  intro p e s m args below meth c s₁ B hml hv
  obtain ⟨rfl, hsz, hP, hK, hlt⟩ := hv
  have hx := B.exec
  have hb := B.bytes
  have hr := B.returns
  have hlk := B.notSynchronized
  have hts := atoms_spec (ws := wX1_init) B.pre
  have hT : ∀ w ∈ nw_T, w.before _ s = true := fun w h => hts w (List.mem_cons_of_mem _ h)
  have hown : s.vm.findClass RX1 = some m.cls := findClass_of_methodNamed B.named
  have hin : meth.name = "<init>" := (name_of_methodNamed B.named B.method).1
  subst hsz
  obtain ⟨A, hAe⟩ : ∃ A : Nat → Prop, A = fun q => q = h ∨ s.heap.size ≤ q := ⟨_, rfl⟩
  rw [← hAe]
  have hA : ∀ q : Nat, s.heap.size ≤ q → A q := fun q w => by rw [hAe]; exact Or.inr w
  have hD : va_D A [(h, .inr (1, [.int (nI 0), .null, .null, .null, .null, .null]))] := d1_D (by rw [hAe]; exact Or.inl rfl)
  have hS : va_S A s.heap s.heap [] := va_S.rf
  have hl := lv_entry ([.ref h]) (n := 1) (Nat.le_of_ble_eq_true rfl)
  rw [lg_entry_eq]
  generalize (lg_sl ([.ref h]) ++ List.replicate (1 - (lg_sl ([.ref h])).length) Slot.unset).toArray = ls at hl ⊢
  have hl : lv_has ls 1 [(0, .ref h)] := hl
  refine lv_aload_n hx hb dX1_init_0 rfl (lv_at hl 0 rfl) ?_
  refine W.objInit hx hb hown (hT _ mw_369) (hT _ mw_18) (hT _ mw_19) rfl (by rw [hml]; exact hl.1) rfl dX1_init_1 (Nat.le_of_ble_eq_true rfl) (Nat.le_of_ble_eq_true rfl) ?_
  refine W.eq (g2 := F0 m 4 ls []) rfl ?_
  refine lv_aload_n hx hb dX1_init_4 rfl (lv_at hl 0 rfl) ?_
  refine lv_bipush (v := (nI 40)) hx hb dX1_init_5 (by decide +kernel) ?_
  refine va_newa (atype := .boolean) (a0 := (40, .inl (fun _ => nI 0))) (ty := .boolean) hx hb (hT _ mw_389) rfl hK hP hD hS hA (fun cA => by rw [nI_0]; rfl) (by decide +kernel) (by decide +kernel) (by decide) (Nat.le_of_ble_eq_true rfl) (Nat.le_of_ble_eq_true rfl) dX1_init_7 (fun q0 cA H hK9 hP hD hS => ?_)
  have eA : cA = Z := Option.some.inj (((hK9.2 2 _ rfl).2).symm.trans (hK.2 1 _ rfl).2)
  rw [eA] at hP hD
  have hP : va_P D vwCl [(h, .inr (1, [.int (nI 0), .null, .null, .null, .null, .null])), (q0, .inl (Z, 40, .inl (fun _ => nI 0)))] H := hP
  have hD : va_D A [(h, .inr (1, [.int (nI 0), .null, .null, .null, .null, .null])), (q0, .inl (Z, 40, .inl (fun _ => nI 0)))] := hD
  refine va_putF (D := D) (ci := 1) (C := RX1) (T := TX1) (N := 6) (ty := .array .boolean) (v := .ref q0) hx hb hT mx_in tyX1 tyX1_ok nmX1 hown hK hP hD hS 0 rfl rfl 1 (by decide) (hT _ mw_371) (fun x9 h9 => h9) rfl hin rfl (by decide +kernel) rfl rfl (Nat.le_of_ble_eq_true rfl) dX1_init_9 (fun H locs hP hD hS => ?_)
  have hP : va_P D vwCl [(h, .inr (1, [.int (nI 0), .ref q0, .null, .null, .null, .null])), (q0, .inl (Z, 40, .inl (fun _ => nI 0)))] H := hP
  have hD : va_D A [(h, .inr (1, [.int (nI 0), .ref q0, .null, .null, .null, .null])), (q0, .inl (Z, 40, .inl (fun _ => nI 0)))] := hD
  refine lv_aload_n hx hb dX1_init_12 rfl (lv_at hl 0 rfl) ?_
  refine lv_bipush (v := (nI 40)) hx hb dX1_init_13 (by decide +kernel) ?_
  refine va_newa (atype := .int) (a0 := (40, .inl (fun _ => nI 0))) (ty := .int) hx hb (hT _ mw_47) rfl hK hP hD hS hA (fun cA => by rw [nI_0]; rfl) (by decide +kernel) (by decide +kernel) (by decide) (Nat.le_of_ble_eq_true rfl) (Nat.le_of_ble_eq_true rfl) dX1_init_15 (fun q1 cA H hK9 hP hD hS => ?_)
  have eA : cA = I := Option.some.inj (((hK9.2 2 _ rfl).2).symm.trans (hK.2 0 _ rfl).2)
  rw [eA] at hP hD
  have hP : va_P D vwCl [(h, .inr (1, [.int (nI 0), .ref q0, .null, .null, .null, .null])), (q0, .inl (Z, 40, .inl (fun _ => nI 0))), (q1, .inl (I, 40, .inl (fun _ => nI 0)))] H := hP
  have hD : va_D A [(h, .inr (1, [.int (nI 0), .ref q0, .null, .null, .null, .null])), (q0, .inl (Z, 40, .inl (fun _ => nI 0))), (q1, .inl (I, 40, .inl (fun _ => nI 0)))] := hD
  refine va_putF (D := D) (ci := 1) (C := RX1) (T := TX1) (N := 6) (ty := .array .int) (v := .ref q1) hx hb hT mx_in tyX1 tyX1_ok nmX1 hown hK hP hD hS 0 rfl rfl 2 (by decide) (hT _ mw_372) (fun x9 h9 => h9) rfl hin rfl (by decide +kernel) rfl rfl (Nat.le_of_ble_eq_true rfl) dX1_init_17 (fun H locs hP hD hS => ?_)
  have hP : va_P D vwCl [(h, .inr (1, [.int (nI 0), .ref q0, .ref q1, .null, .null, .null])), (q0, .inl (Z, 40, .inl (fun _ => nI 0))), (q1, .inl (I, 40, .inl (fun _ => nI 0)))] H := hP
  have hD : va_D A [(h, .inr (1, [.int (nI 0), .ref q0, .ref q1, .null, .null, .null])), (q0, .inl (Z, 40, .inl (fun _ => nI 0))), (q1, .inl (I, 40, .inl (fun _ => nI 0)))] := hD
  refine lv_aload_n hx hb dX1_init_20 rfl (lv_at hl 0 rfl) ?_
  refine lv_sipush (v := (nI 1280)) hx hb dX1_init_21 (by decide +kernel) ?_
  refine va_newa (atype := .int) (a0 := (1280, .inl (fun _ => nI 0))) (ty := .int) hx hb (hT _ mw_47) rfl hK hP hD hS hA (fun cA => by rw [nI_0]; rfl) (by decide +kernel) (by decide +kernel) (by decide) (Nat.le_of_ble_eq_true rfl) (Nat.le_of_ble_eq_true rfl) dX1_init_24 (fun q2 cA H hK9 hP hD hS => ?_)
  have eA : cA = I := Option.some.inj (((hK9.2 2 _ rfl).2).symm.trans (hK.2 0 _ rfl).2)
  rw [eA] at hP hD
  have hP : va_P D vwCl [(h, .inr (1, [.int (nI 0), .ref q0, .ref q1, .null, .null, .null])), (q0, .inl (Z, 40, .inl (fun _ => nI 0))), (q1, .inl (I, 40, .inl (fun _ => nI 0))), (q2, .inl (I, 1280, .inl (fun _ => nI 0)))] H := hP
  have hD : va_D A [(h, .inr (1, [.int (nI 0), .ref q0, .ref q1, .null, .null, .null])), (q0, .inl (Z, 40, .inl (fun _ => nI 0))), (q1, .inl (I, 40, .inl (fun _ => nI 0))), (q2, .inl (I, 1280, .inl (fun _ => nI 0)))] := hD
  refine va_putF (D := D) (ci := 1) (C := RX1) (T := TX1) (N := 6) (ty := .array .int) (v := .ref q2) hx hb hT mx_in tyX1 tyX1_ok nmX1 hown hK hP hD hS 0 rfl rfl 3 (by decide) (hT _ mw_373) (fun x9 h9 => h9) rfl hin rfl (by decide +kernel) rfl rfl (Nat.le_of_ble_eq_true rfl) dX1_init_26 (fun H locs hP hD hS => ?_)
  have hP : va_P D vwCl [(h, .inr (1, [.int (nI 0), .ref q0, .ref q1, .ref q2, .null, .null])), (q0, .inl (Z, 40, .inl (fun _ => nI 0))), (q1, .inl (I, 40, .inl (fun _ => nI 0))), (q2, .inl (I, 1280, .inl (fun _ => nI 0)))] H := hP
  have hD : va_D A [(h, .inr (1, [.int (nI 0), .ref q0, .ref q1, .ref q2, .null, .null])), (q0, .inl (Z, 40, .inl (fun _ => nI 0))), (q1, .inl (I, 40, .inl (fun _ => nI 0))), (q2, .inl (I, 1280, .inl (fun _ => nI 0)))] := hD
  refine lv_aload_n hx hb dX1_init_29 rfl (lv_at hl 0 rfl) ?_
  refine lv_sipush (v := (nI 1600)) hx hb dX1_init_30 (by decide +kernel) ?_
  refine va_newa (atype := .int) (a0 := (1600, .inl (fun _ => nI 0))) (ty := .int) hx hb (hT _ mw_47) rfl hK hP hD hS hA (fun cA => by rw [nI_0]; rfl) (by decide +kernel) (by decide +kernel) (by decide) (Nat.le_of_ble_eq_true rfl) (Nat.le_of_ble_eq_true rfl) dX1_init_33 (fun q3 cA H hK9 hP hD hS => ?_)
  have eA : cA = I := Option.some.inj (((hK9.2 2 _ rfl).2).symm.trans (hK.2 0 _ rfl).2)
  rw [eA] at hP hD
  have hP : va_P D vwCl [(h, .inr (1, [.int (nI 0), .ref q0, .ref q1, .ref q2, .null, .null])), (q0, .inl (Z, 40, .inl (fun _ => nI 0))), (q1, .inl (I, 40, .inl (fun _ => nI 0))), (q2, .inl (I, 1280, .inl (fun _ => nI 0))), (q3, .inl (I, 1600, .inl (fun _ => nI 0)))] H := hP
  have hD : va_D A [(h, .inr (1, [.int (nI 0), .ref q0, .ref q1, .ref q2, .null, .null])), (q0, .inl (Z, 40, .inl (fun _ => nI 0))), (q1, .inl (I, 40, .inl (fun _ => nI 0))), (q2, .inl (I, 1280, .inl (fun _ => nI 0))), (q3, .inl (I, 1600, .inl (fun _ => nI 0)))] := hD
  refine va_putF (D := D) (ci := 1) (C := RX1) (T := TX1) (N := 6) (ty := .array .int) (v := .ref q3) hx hb hT mx_in tyX1 tyX1_ok nmX1 hown hK hP hD hS 0 rfl rfl 4 (by decide) (hT _ mw_374) (fun x9 h9 => h9) rfl hin rfl (by decide +kernel) rfl rfl (Nat.le_of_ble_eq_true rfl) dX1_init_35 (fun H locs hP hD hS => ?_)
  have hP : va_P D vwCl [(h, .inr (1, [.int (nI 0), .ref q0, .ref q1, .ref q2, .ref q3, .null])), (q0, .inl (Z, 40, .inl (fun _ => nI 0))), (q1, .inl (I, 40, .inl (fun _ => nI 0))), (q2, .inl (I, 1280, .inl (fun _ => nI 0))), (q3, .inl (I, 1600, .inl (fun _ => nI 0)))] H := hP
  have hD : va_D A [(h, .inr (1, [.int (nI 0), .ref q0, .ref q1, .ref q2, .ref q3, .null])), (q0, .inl (Z, 40, .inl (fun _ => nI 0))), (q1, .inl (I, 40, .inl (fun _ => nI 0))), (q2, .inl (I, 1280, .inl (fun _ => nI 0))), (q3, .inl (I, 1600, .inl (fun _ => nI 0)))] := hD
  refine lv_aload_n hx hb dX1_init_38 rfl (lv_at hl 0 rfl) ?_
  refine lv_bipush (v := (nI 32)) hx hb dX1_init_39 (by decide +kernel) ?_
  refine va_newa (atype := .int) (a0 := (32, .inl (fun _ => nI 0))) (ty := .int) hx hb (hT _ mw_47) rfl hK hP hD hS hA (fun cA => by rw [nI_0]; rfl) (by decide +kernel) (by decide +kernel) (by decide) (Nat.le_of_ble_eq_true rfl) (Nat.le_of_ble_eq_true rfl) dX1_init_41 (fun q4 cA H hK9 hP hD hS => ?_)
  have eA : cA = I := Option.some.inj (((hK9.2 2 _ rfl).2).symm.trans (hK.2 0 _ rfl).2)
  rw [eA] at hP hD
  have hP : va_P D vwCl [(h, .inr (1, [.int (nI 0), .ref q0, .ref q1, .ref q2, .ref q3, .null])), (q0, .inl (Z, 40, .inl (fun _ => nI 0))), (q1, .inl (I, 40, .inl (fun _ => nI 0))), (q2, .inl (I, 1280, .inl (fun _ => nI 0))), (q3, .inl (I, 1600, .inl (fun _ => nI 0))), (q4, .inl (I, 32, .inl (fun _ => nI 0)))] H := hP
  have hD : va_D A [(h, .inr (1, [.int (nI 0), .ref q0, .ref q1, .ref q2, .ref q3, .null])), (q0, .inl (Z, 40, .inl (fun _ => nI 0))), (q1, .inl (I, 40, .inl (fun _ => nI 0))), (q2, .inl (I, 1280, .inl (fun _ => nI 0))), (q3, .inl (I, 1600, .inl (fun _ => nI 0))), (q4, .inl (I, 32, .inl (fun _ => nI 0)))] := hD
  refine va_putF (D := D) (ci := 1) (C := RX1) (T := TX1) (N := 6) (ty := .array .int) (v := .ref q4) hx hb hT mx_in tyX1 tyX1_ok nmX1 hown hK hP hD hS 0 rfl rfl 5 (by decide) (hT _ mw_375) (fun x9 h9 => h9) rfl hin rfl (by decide +kernel) rfl rfl (Nat.le_of_ble_eq_true rfl) dX1_init_43 (fun H locs hP hD hS => ?_)
  have hP : va_P D vwCl [(h, .inr (1, [.int (nI 0), .ref q0, .ref q1, .ref q2, .ref q3, .ref q4])), (q0, .inl (Z, 40, .inl (fun _ => nI 0))), (q1, .inl (I, 40, .inl (fun _ => nI 0))), (q2, .inl (I, 1280, .inl (fun _ => nI 0))), (q3, .inl (I, 1600, .inl (fun _ => nI 0))), (q4, .inl (I, 32, .inl (fun _ => nI 0)))] H := hP
  have hD : va_D A [(h, .inr (1, [.int (nI 0), .ref q0, .ref q1, .ref q2, .ref q3, .ref q4])), (q0, .inl (Z, 40, .inl (fun _ => nI 0))), (q1, .inl (I, 40, .inl (fun _ => nI 0))), (q2, .inl (I, 1280, .inl (fun _ => nI 0))), (q3, .inl (I, 1600, .inl (fun _ => nI 0))), (q4, .inl (I, 32, .inl (fun _ => nI 0)))] := hD
  obtain ⟨G, hG⟩ : ∃ G : mg_T, G = (h, (fun k => if k = 0 then q0 else if k = 1 then q1 else if k = 2 then q2 else if k = 3 then q3 else q4), D, I, Z) := ⟨_, rfl⟩
  have eL : mc_L G ms_0 = [(h, .inr (1, [.int (nI 0), .ref q0, .ref q1, .ref q2, .ref q3, .ref q4])), (q0, .inl (Z, 40, .inl (fun _ => nI 0))), (q1, .inl (I, 40, .inl (fun _ => nI 0))), (q2, .inl (I, 1280, .inl (fun _ => nI 0))), (q3, .inl (I, 1600, .inl (fun _ => nI 0))), (q4, .inl (I, 32, .inl (fun _ => nI 0)))] := by rw [hG]; rfl
  have hq : ∀ k, k < 5 → s.heap.size ≤ mg_a G k := by
    have hne : ∀ i, i < 6 → i ≠ 0 → ∀ x : Nat × va_E, ([(h, .inr (1, [.int (nI 0), .ref q0, .ref q1, .ref q2, .ref q3, .ref q4])), (q0, .inl (Z, 40, .inl (fun _ => nI 0))), (q1, .inl (I, 40, .inl (fun _ => nI 0))), (q2, .inl (I, 1280, .inl (fun _ => nI 0))), (q3, .inl (I, 1600, .inl (fun _ => nI 0))), (q4, .inl (I, 32, .inl (fun _ => nI 0)))] : va_W)[i]? = some x → s.heap.size ≤ x.1 := fun i hi h0 x hx9 => by
      have h1 := hD.2 i x hx9
      rw [hAe] at h1
      rcases h1 with h1 | h1
      · exact absurd (hD.1 i 0 x _ hx9 rfl h1) h0
      · exact h1
    intro k hk
    rw [hG]
    obtain rfl | rfl | rfl | rfl | rfl : k = 0 ∨ k = 1 ∨ k = 2 ∨ k = 3 ∨ k = 4 := by omega
    · exact hne 1 (by omega) (by omega) _ rfl
    · exact hne 2 (by omega) (by omega) _ rfl
    · exact hne 3 (by omega) (by omega) _ rfl
    · exact hne 4 (by omega) (by omega) _ rfl
    · exact hne 5 (by omega) (by omega) _ rfl
  have hDG : va_D (mg_A G) (mc_L G ms_0) := by
    rw [eL]
    refine ⟨hD.1, fun k x hk => ?_⟩
    have h6 : k < 6 := (List.getElem?_eq_some_iff.mp hk).1
    rw [hG]
    obtain rfl | rfl | rfl | rfl | rfl | rfl : k = 0 ∨ k = 1 ∨ k = 2 ∨ k = 3 ∨ k = 4 ∨ k = 5 := by omega
    · cases hk
      exact Or.inl rfl
    · cases hk
      exact Or.inr ⟨0, by omega, rfl⟩
    · cases hk
      exact Or.inr ⟨1, by omega, rfl⟩
    · cases hk
      exact Or.inr ⟨2, by omega, rfl⟩
    · cases hk
      exact Or.inr ⟨3, by omega, rfl⟩
    · cases hk
      exact Or.inr ⟨4, by omega, rfl⟩
  refine W.widen (k := 5) (n := 2992) (Nat.le_of_ble_eq_true rfl) (Nat.le_of_ble_eq_true rfl) ?_
  exact W.vret hx hb hr (fun t ht hW => ⟨⟨G, rfl, by rw [hG]; exact ⟨rfl, rfl, rfl, rfl, by rw [hG] at hq; exact hq⟩, by rw [ht, eL, hG]; exact hP, hDG⟩, hS.F ht⟩) hS.2.2 dX1_init_46 hlk
