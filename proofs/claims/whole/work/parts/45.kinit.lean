/-! the class's constructor (laid by program) -/
def ks_0 : ks_T := (fun _ => 0, fun _ _ => 0, fun _ _ => nI 0, fun _ => 0, fun _ => nI 0, fun _ => nI 0, fun _ => nI 0)
def ki_p (D : va_G) (I J : ClassId) (h sz : Nat) (U : State) : Prop := U.heap.size = sz ∧ va_P D vwCl [(h, .inr (0, [.null, .null, .null, .null, .null, .null, .null]))] U.heap ∧ va_K D vwCl [(I, .int), (J, .array .int)] U ∧ va_AOA .int U
def ki_q (D : va_G) (I J : ClassId) (h sz : Nat) (G : kg_T) : Prop := kg_D G = D ∧ kg_I G = I ∧ kg_J G = J ∧ kg_h G = h ∧ ∀ q, kg_A G q → q = h ∨ sz ≤ q
theorem ki_blind {D : va_G} {I J : ClassId} {h sz : Nat} {av : List Value} : FrameBlind (va_Pc av (ki_p D I J h sz)) := fun a U g mk q => ⟨q.1, q.2.1, q.2.2.1, va_K.moved (u := U) (U := U.calling g mk a) (Vm.Alike.refl U.vm) q.2.2.2.1, va_AOA.moved (u := U) (U := U.calling g mk a) (Vm.Alike.refl U.vm) q.2.2.2.2⟩
theorem vc_i {I : ClassId} {n : Nat} {f g : Nat → Int32} (e : ∀ j, j < n → f j = g j) : vp_cell I (n, .inl f) = vp_cell I (n, .inl g) := by
  have h : (fun j : Fin n => Value.int (f j.val)) = fun j => .int (g j.val) := funext fun j => by rw [e _ j.isLt]
  show ({ cls := I, slots := Array.ofFn (n := n) (fun j => Value.int (f j.val)), vm := .none } : Cell) = { cls := I, slots := Array.ofFn (n := n) (fun j => Value.int (g j.val)), vm := .none }
  rw [h]
theorem vc_q {I : ClassId} {n : Nat} {f g : Nat → Option Nat} (e : ∀ j, j < n → f j = g j) : vp_cell I (n, .inr (.inr (.inr (.inr f)))) = vp_cell I (n, .inr (.inr (.inr (.inr g)))) := by
  have h : (fun j : Fin n => va_rf (f j.val)) = fun j => va_rf (g j.val) := funext fun j => by rw [e _ j.isLt]
  show ({ cls := I, slots := Array.ofFn (n := n) (fun j => va_rf (f j.val)), vm := .none } : Cell) = { cls := I, slots := Array.ofFn (n := n) (fun j => va_rf (g j.val)), vm := .none }
  rw [h]
theorem va_Dm {A : Nat → Prop} {ws ws' : va_W} (e : ws.map (fun q => q.1) = ws'.map (fun q => q.1)) (h : va_D A ws) : va_D A ws' := by
  have hp : ∀ (i : Nat) (p : Nat × va_E), ws'[i]? = some p → ∃ p', ws[i]? = some p' ∧ p'.1 = p.1 := fun i p hi => by
    have h1 : (ws'.map (fun q => q.1))[i]? = some p.1 := by rw [List.getElem?_map, hi]; rfl
    rw [← e, List.getElem?_map] at h1
    cases hw : ws[i]? with
    | none => rw [hw] at h1; cases h1
    | some p' => rw [hw] at h1; exact ⟨p', rfl, Option.some.inj h1⟩
  refine ⟨fun i j p q hi hj hpq => ?_, fun k q hk => ?_⟩
  · obtain ⟨p', hp', e1⟩ := hp i p hi
    obtain ⟨q', hq', e2⟩ := hp j q hj
    exact h.1 i j p' q' hp' hq' (by rw [e1, e2, hpq])
  · obtain ⟨q', hq', e2⟩ := hp k q hk
    rw [← e2]
    exact h.2 k q' hq'
theorem ap_m {α : Type} {X P Y : List α} {k n : Nat} (hX : X.length = n) (hk : k < P.length) : ((X ++ P) ++ Y)[n + k]? = P[k]? := by
  subst hX
  rw [List.append_assoc, List.getElem?_append_right (by omega), show X.length + k - X.length = k by omega, List.getElem?_append_left hk]
theorem ap_r {α : Type} {X P Y : List α} {k n : Nat} (hX : X.length + P.length = n) : ((X ++ P) ++ Y)[n + k]? = Y[k]? := by
  subst hX
  rw [List.getElem?_append_right (by rw [List.length_append]; omega), List.length_append, show X.length + P.length + k - (X.length + P.length) = k by omega]
def ki_pi (i : Nat) : Nat := if i = 0 then 0 else if i = 1 then 2 else if i = 2 then 3 else if i = 3 then 1 else if i < 8 then 241 + i else i - 4
theorem ki_pi_inj {i j : Nat} (hi : i < 249) (hj : j < 249) (h : ki_pi i = ki_pi j) : i = j := by
  unfold ki_pi at h
  split at h <;> split at h <;> (try split at h) <;> (try split at h) <;> (try split at h) <;> (try split at h) <;> (try split at h) <;> (try split at h) <;> (try split at h) <;> (try split at h) <;> omega
set_option maxHeartbeats 4000000 in
set_option maxRecDepth 100000 in
theorem k0_init (l : Launch) (D : va_G) (I J : ClassId) (h sz : Nat) : Met l yX0_init wX0_init ({ frames := 1, cells := 248, slots := 3804, locals := 32 }) (va_Pc [.ref h] (ki_p D I J h sz)) (va_Qv (ki_q D I J h sz) (fun (G : kg_T) (t : State) => va_P (kg_D G) vwCl (kc_L G ks_0) t.heap ∧ va_D (kg_A G) (kc_L G ks_0)) (fun q => q = h ∨ sz ≤ q)) 248 3804 (fun q => q = h ∨ sz ≤ q) := by
  refine Met.ofW (cc := cX0_init) (maxL := 1) (ret := none) (by decide) rfl ?_
  intro p e s m args below meth c s₁ B hml hv
  obtain ⟨rfl, hsz, hP, hK, hAO⟩ := hv
  have hx := B.exec
  have hb := B.bytes
  have hr := B.returns
  have hlk := B.notSynchronized
  have hts := atoms_spec (ws := wX0_init) B.pre
  have hT : ∀ w ∈ nw_T, w.before _ s = true := fun w h => hts w (List.mem_cons_of_mem _ h)
  have hown : s.vm.findClass RX0 = some m.cls := findClass_of_methodNamed B.named
  have hin : meth.name = "<init>" := (name_of_methodNamed B.named B.method).1
  subst hsz
  obtain ⟨A, hAe⟩ : ∃ A : Nat → Prop, A = fun q => q = h ∨ s.heap.size ≤ q := ⟨_, rfl⟩
  rw [← hAe]
  have hA : ∀ q : Nat, s.heap.size ≤ q → A q := fun q w => by rw [hAe]; exact Or.inr w
  have hD : va_D A [(h, .inr (0, [.null, .null, .null, .null, .null, .null, .null]))] := d1_D (by rw [hAe]; exact Or.inl rfl)
  have hS : va_S A s.heap s.heap [] := va_S.rf
  have hKI : va_K D vwCl [(I, .int)] s := hK.sub [0] rfl
  have hl := lv_entry ([.ref h]) (n := 1) (Nat.le_of_ble_eq_true rfl)
  rw [lg_entry_eq]
  generalize (lg_sl ([.ref h]) ++ List.replicate (1 - (lg_sl ([.ref h])).length) Slot.unset).toArray = ls at hl ⊢
  have hl : lv_has ls 1 [(0, .ref h)] := hl
  refine lv_aload_n hx hb dX0_init_0 rfl (lv_at hl 0 rfl) ?_
  refine W.objInit hx hb hown (hT _ mw_17) (hT _ mw_18) (hT _ mw_19) rfl (by rw [hml]; exact hl.1) rfl dX0_init_1 (Nat.le_of_ble_eq_true rfl) (Nat.le_of_ble_eq_true rfl) ?_
  refine W.eq (g2 := F0 m 4 ls []) rfl ?_
  refine lv_aload_n hx hb dX0_init_4 rfl (lv_at hl 0 rfl) ?_
  refine lv_bipush (v := (nI 40)) hx hb dX0_init_5 (by decide +kernel) ?_
  refine va_newa (atype := .int) (a0 := (40, .inl (fun _ => nI 0))) (ty := .int) hx hb (hT _ mw_47) rfl hK hP hD hS hA (fun cA => by rw [nI_0]; rfl) (by decide +kernel) (by decide +kernel) (by decide) (Nat.le_of_ble_eq_true rfl) (Nat.le_of_ble_eq_true rfl) dX0_init_7 (fun q0 cA H hK9 hP hD hS => ?_)
  have eA : cA = I := Option.some.inj (((hK9.2 2 _ rfl).2).symm.trans (hK.2 0 _ rfl).2)
  rw [eA] at hP hD
  have hP : va_P D vwCl [(h, .inr (0, [.null, .null, .null, .null, .null, .null, .null])), (q0, .inl (I, 40, .inl (fun _ => nI 0)))] H := hP
  have hD : va_D A [(h, .inr (0, [.null, .null, .null, .null, .null, .null, .null])), (q0, .inl (I, 40, .inl (fun _ => nI 0)))] := hD
  refine va_putF (D := D) (ci := 0) (C := RX0) (T := TX0) (N := 7) (ty := .array .int) (v := .ref q0) hx hb hT kx_in tyX0 tyX0_ok nmX0 hown hK hP hD hS 0 rfl rfl 0 (by decide) (hT _ mw_25) (fun x9 h9 => h9) rfl hin rfl (by decide +kernel) rfl rfl (Nat.le_of_ble_eq_true rfl) dX0_init_9 (fun H locs hP hD hS => ?_)
  have hP : va_P D vwCl [(h, .inr (0, [.ref q0, .null, .null, .null, .null, .null, .null])), (q0, .inl (I, 40, .inl (fun _ => nI 0)))] H := hP
  have hD : va_D A [(h, .inr (0, [.ref q0, .null, .null, .null, .null, .null, .null])), (q0, .inl (I, 40, .inl (fun _ => nI 0)))] := hD
  refine lv_aload_n hx hb dX0_init_12 rfl (lv_at hl 0 rfl) ?_
  refine va_get (C := RX0) (T := TX0) (N := 7) (ci := 0) hx hb hT kx_in hown hK hP 0 rfl rfl 0 (by decide) (hT _ mw_25) (fun x9 h9 => h9) rfl dX0_init_13 ?_
  refine lv_iconst (v := (-1)) hx hb dX0_init_16 (by decide +kernel) ?_
  have hP3 : va_P D vwCl [(q0, .inl (I, 40, .inl (fun _ => nI 0)))] H := hP.sub [1] rfl
  have hA0 : A q0 := hD.2 1 _ rfl
  refine va_callv (va_runS (As := [.ref q0, .int (-1)]) (rest := []) ⟨hx, hb, hml, hown, hts⟩ (k7_fill l D q0 40 I (fun _ => nI 0) (-1) (by omega)) (va_cwS 2 hts gX0_13 rfl rfl rfl hJ7_fill.2 ⟨Nat.le_of_ble_eq_true rfl, Nat.le_of_ble_eq_true rfl⟩) ⟨fun a U g mk q => ⟨q.1, q.2.1, va_K.moved (u := U) (U := U.calling g mk a) (Vm.Alike.refl U.vm) q.2.2⟩, fun U hU hW => ⟨rfl, by rw [hU]; exact hP3, va_K.moved hW.alike hKI⟩⟩ rfl rfl hl.1 rfl (lv_room (Nat.le_of_ble_eq_true rfl)) dX0_init_17 ⟨Nat.le_of_ble_eq_true rfl, Nat.le_of_ble_eq_true rfl⟩) hS (fun q _ h => by rw [h]; exact hA0) (fun q h => by rw [h]; exact hA0) (fun g0 t H2 locs ht hvm hg0 hB hz hk hS => ?_)
  rw [ht] at hB
  have hh0 : h ≠ q0 := fun e => absurd (hD.1 0 1 _ _ rfl rfl e) (by omega)
  have hP : va_P D vwCl [(h, .inr (0, [.ref q0, .null, .null, .null, .null, .null, .null])), (q0, .inl (I, 40, .inl g0))] H2 := fun k x hk9 => by
    have h2 : k < 2 := (List.getElem?_eq_some_iff.mp hk9).1
    obtain rfl | rfl : k = 0 ∨ k = 1 := by omega
    · cases hk9
      exact (hP 0 _ rfl).kept (hk h ((hP 0 _ rfl).lt) hh0)
    · cases hk9
      exact hB 0 _ rfl
  have hD : va_D A [(h, .inr (0, [.ref q0, .null, .null, .null, .null, .null, .null])), (q0, .inl (I, 40, .inl g0))] := va_Dm (ws := [(h, .inr (0, [.ref q0, .null, .null, .null, .null, .null, .null])), (q0, .inl (I, 40, .inl (fun _ => nI 0)))]) rfl hD
  have hcy : s.vm.findClass (FieldType.array .int).toString = some I := (hK.2 0 _ rfl).2
  obtain ⟨f0, hf0⟩ : ∃ f : Nat → va_E, f = fun _ => .inl (I, (0, .inl (fun _ => nI 0))) := ⟨_, rfl⟩
  refine lv_aload_n hx hb dX0_init_20 rfl (lv_at hl 0 rfl) ?_
  refine lv_bipush (v := (nI 40)) hx hb dX0_init_21 (by decide +kernel) ?_
  refine lv_bipush (v := (nI 32)) hx hb dX0_init_23 (by decide +kernel) ?_
  have hP : va_P D vwCl ([(h, .inr (0, [.ref q0, .null, .null, .null, .null, .null, .null])), (q0, .inl (I, 40, .inl g0))] ++ va_pl [] f0) H2 := by rw [show va_pl [] f0 = [] from rfl, List.append_nil]; exact hP
  have hD : va_D A ([(h, .inr (0, [.ref q0, .null, .null, .null, .null, .null, .null])), (q0, .inl (I, 40, .inl g0))] ++ va_pl [] f0) := by rw [show va_pl [] f0 = [] from rfl, List.append_nil]; exact hD
  refine va_mna (N' := 40) (K' := 32) (z := (32, .inl (fun _ => nI 0))) (ty := .int) (cy := I) hx hb hown (hT _ mw_23) hAO (hT _ mw_47) hcy hK hP hD hS hA (by decide +kernel) (by decide +kernel) (by decide +kernel) (by decide +kernel) (by decide) (by decide) (by decide) rfl rfl (Nat.le_of_ble_eq_true rfl) (Nat.le_of_ble_eq_true rfl) (fun c => by show ({ cls := c, slots := Array.replicate 32 (.int 0), vm := .none } : Cell) = arrV c 32 (fun _ => .int (nI 0)); rw [arrV_new, nI_0]) dX0_init_25 (fun q1 r1 cA H inj_r1 nin_r1 hK9 hP hD hS => ?_)
  have eA : cA = J := Option.some.inj (((hK9.2 2 _ rfl).2).symm.trans (hK.2 1 _ rfl).2)
  rw [eA] at hP hD
  have hP : va_P D vwCl ([(h, .inr (0, [.ref q0, .null, .null, .null, .null, .null, .null])), (q0, .inl (I, 40, .inl g0)), (q1, .inl (J, 40, .inr (.inr (.inr (.inr (fun i => if i < 40 then some (r1 i) else none))))))] ++ va_pl ([] ++ (List.range 40).map r1) (vr_up f0 ((List.range 40).map r1) (.inl (I, (32, .inl (fun _ => nI 0)))))) H := hP
  have hD : va_D A ([(h, .inr (0, [.ref q0, .null, .null, .null, .null, .null, .null])), (q0, .inl (I, 40, .inl g0)), (q1, .inl (J, 40, .inr (.inr (.inr (.inr (fun i => if i < 40 then some (r1 i) else none))))))] ++ va_pl ([] ++ (List.range 40).map r1) (vr_up f0 ((List.range 40).map r1) (.inl (I, (32, .inl (fun _ => nI 0)))))) := hD
  refine va_putF (D := D) (ci := 0) (C := RX0) (T := TX0) (N := 7) (ty := .array (.array .int)) (v := .ref q1) hx hb hT kx_in tyX0 tyX0_ok nmX0 hown hK hP hD hS 0 rfl rfl 1 (by decide) (hT _ mw_26) (fun x9 h9 => h9) rfl hin rfl (by decide +kernel) rfl rfl (Nat.le_of_ble_eq_true rfl) dX0_init_29 (fun H locs hP hD hS => ?_)
  have hP : va_P D vwCl ([(h, .inr (0, [.ref q0, .ref q1, .null, .null, .null, .null, .null])), (q0, .inl (I, 40, .inl g0)), (q1, .inl (J, 40, .inr (.inr (.inr (.inr (fun i => if i < 40 then some (r1 i) else none))))))] ++ va_pl ([] ++ (List.range 40).map r1) (vr_up f0 ((List.range 40).map r1) (.inl (I, (32, .inl (fun _ => nI 0)))))) H := hP
  have hD : va_D A ([(h, .inr (0, [.ref q0, .ref q1, .null, .null, .null, .null, .null])), (q0, .inl (I, 40, .inl g0)), (q1, .inl (J, 40, .inr (.inr (.inr (.inr (fun i => if i < 40 then some (r1 i) else none))))))] ++ va_pl ([] ++ (List.range 40).map r1) (vr_up f0 ((List.range 40).map r1) (.inl (I, (32, .inl (fun _ => nI 0)))))) := hD
  refine lv_aload_n hx hb dX0_init_32 rfl (lv_at hl 0 rfl) ?_
  refine lv_sipush (v := (nI 201)) hx hb dX0_init_33 (by decide +kernel) ?_
  refine lv_bipush (v := (nI 8)) hx hb dX0_init_36 (by decide +kernel) ?_
  refine va_mna (N' := 201) (K' := 8) (z := (8, .inl (fun _ => nI 0))) (ty := .int) (cy := I) hx hb hown (hT _ mw_23) hAO (hT _ mw_47) hcy hK hP hD hS hA (by decide +kernel) (by decide +kernel) (by decide +kernel) (by decide +kernel) (by decide) (by decide) (by decide) rfl rfl (Nat.le_of_ble_eq_true rfl) (Nat.le_of_ble_eq_true rfl) (fun c => by show ({ cls := c, slots := Array.replicate 8 (.int 0), vm := .none } : Cell) = arrV c 8 (fun _ => .int (nI 0)); rw [arrV_new, nI_0]) dX0_init_38 (fun q2 r2 cA H inj_r2 nin_r2 hK9 hP hD hS => ?_)
  have eA : cA = J := Option.some.inj (((hK9.2 2 _ rfl).2).symm.trans (hK.2 1 _ rfl).2)
  rw [eA] at hP hD
  have hP : va_P D vwCl ([(h, .inr (0, [.ref q0, .ref q1, .null, .null, .null, .null, .null])), (q0, .inl (I, 40, .inl g0)), (q1, .inl (J, 40, .inr (.inr (.inr (.inr (fun i => if i < 40 then some (r1 i) else none)))))), (q2, .inl (J, 201, .inr (.inr (.inr (.inr (fun i => if i < 201 then some (r2 i) else none))))))] ++ va_pl (([] ++ (List.range 40).map r1) ++ (List.range 201).map r2) (vr_up (vr_up f0 ((List.range 40).map r1) (.inl (I, (32, .inl (fun _ => nI 0))))) ((List.range 201).map r2) (.inl (I, (8, .inl (fun _ => nI 0)))))) H := hP
  have hD : va_D A ([(h, .inr (0, [.ref q0, .ref q1, .null, .null, .null, .null, .null])), (q0, .inl (I, 40, .inl g0)), (q1, .inl (J, 40, .inr (.inr (.inr (.inr (fun i => if i < 40 then some (r1 i) else none)))))), (q2, .inl (J, 201, .inr (.inr (.inr (.inr (fun i => if i < 201 then some (r2 i) else none))))))] ++ va_pl (([] ++ (List.range 40).map r1) ++ (List.range 201).map r2) (vr_up (vr_up f0 ((List.range 40).map r1) (.inl (I, (32, .inl (fun _ => nI 0))))) ((List.range 201).map r2) (.inl (I, (8, .inl (fun _ => nI 0)))))) := hD
  refine va_putF (D := D) (ci := 0) (C := RX0) (T := TX0) (N := 7) (ty := .array (.array .int)) (v := .ref q2) hx hb hT kx_in tyX0 tyX0_ok nmX0 hown hK hP hD hS 0 rfl rfl 2 (by decide) (hT _ mw_27) (fun x9 h9 => h9) rfl hin rfl (by decide +kernel) rfl rfl (Nat.le_of_ble_eq_true rfl) dX0_init_42 (fun H locs hP hD hS => ?_)
  have hP : va_P D vwCl ([(h, .inr (0, [.ref q0, .ref q1, .ref q2, .null, .null, .null, .null])), (q0, .inl (I, 40, .inl g0)), (q1, .inl (J, 40, .inr (.inr (.inr (.inr (fun i => if i < 40 then some (r1 i) else none)))))), (q2, .inl (J, 201, .inr (.inr (.inr (.inr (fun i => if i < 201 then some (r2 i) else none))))))] ++ va_pl (([] ++ (List.range 40).map r1) ++ (List.range 201).map r2) (vr_up (vr_up f0 ((List.range 40).map r1) (.inl (I, (32, .inl (fun _ => nI 0))))) ((List.range 201).map r2) (.inl (I, (8, .inl (fun _ => nI 0)))))) H := hP
  have hD : va_D A ([(h, .inr (0, [.ref q0, .ref q1, .ref q2, .null, .null, .null, .null])), (q0, .inl (I, 40, .inl g0)), (q1, .inl (J, 40, .inr (.inr (.inr (.inr (fun i => if i < 40 then some (r1 i) else none)))))), (q2, .inl (J, 201, .inr (.inr (.inr (.inr (fun i => if i < 201 then some (r2 i) else none))))))] ++ va_pl (([] ++ (List.range 40).map r1) ++ (List.range 201).map r2) (vr_up (vr_up f0 ((List.range 40).map r1) (.inl (I, (32, .inl (fun _ => nI 0))))) ((List.range 201).map r2) (.inl (I, (8, .inl (fun _ => nI 0)))))) := hD
  refine lv_aload_n hx hb dX0_init_45 rfl (lv_at hl 0 rfl) ?_
  refine lv_sipush (v := (nI 201)) hx hb dX0_init_46 (by decide +kernel) ?_
  refine va_newa (atype := .int) (a0 := (201, .inl (fun _ => nI 0))) (ty := .int) hx hb (hT _ mw_47) rfl hK hP hD hS hA (fun cA => by rw [nI_0]; rfl) (by decide +kernel) (by decide +kernel) (by decide) (Nat.le_of_ble_eq_true rfl) (Nat.le_of_ble_eq_true rfl) dX0_init_49 (fun q3 cA H hK9 hP hD hS => ?_)
  have eA : cA = I := Option.some.inj (((hK9.2 2 _ rfl).2).symm.trans (hK.2 0 _ rfl).2)
  rw [eA] at hP hD
  have hP : va_P D vwCl (([(h, .inr (0, [.ref q0, .ref q1, .ref q2, .null, .null, .null, .null])), (q0, .inl (I, 40, .inl g0)), (q1, .inl (J, 40, .inr (.inr (.inr (.inr (fun i => if i < 40 then some (r1 i) else none)))))), (q2, .inl (J, 201, .inr (.inr (.inr (.inr (fun i => if i < 201 then some (r2 i) else none))))))] ++ va_pl (([] ++ (List.range 40).map r1) ++ (List.range 201).map r2) (vr_up (vr_up f0 ((List.range 40).map r1) (.inl (I, (32, .inl (fun _ => nI 0))))) ((List.range 201).map r2) (.inl (I, (8, .inl (fun _ => nI 0)))))) ++ [(q3, .inl (I, 201, .inl (fun _ => nI 0)))]) H := hP
  have hD : va_D A (([(h, .inr (0, [.ref q0, .ref q1, .ref q2, .null, .null, .null, .null])), (q0, .inl (I, 40, .inl g0)), (q1, .inl (J, 40, .inr (.inr (.inr (.inr (fun i => if i < 40 then some (r1 i) else none)))))), (q2, .inl (J, 201, .inr (.inr (.inr (.inr (fun i => if i < 201 then some (r2 i) else none))))))] ++ va_pl (([] ++ (List.range 40).map r1) ++ (List.range 201).map r2) (vr_up (vr_up f0 ((List.range 40).map r1) (.inl (I, (32, .inl (fun _ => nI 0))))) ((List.range 201).map r2) (.inl (I, (8, .inl (fun _ => nI 0)))))) ++ [(q3, .inl (I, 201, .inl (fun _ => nI 0)))]) := hD
  refine va_putF (D := D) (ci := 0) (C := RX0) (T := TX0) (N := 7) (ty := .array .int) (v := .ref q3) hx hb hT kx_in tyX0 tyX0_ok nmX0 hown hK hP hD hS 0 rfl rfl 3 (by decide) (hT _ mw_28) (fun x9 h9 => h9) rfl hin rfl (by decide +kernel) rfl rfl (Nat.le_of_ble_eq_true rfl) dX0_init_51 (fun H locs hP hD hS => ?_)
  have hP : va_P D vwCl (([(h, .inr (0, [.ref q0, .ref q1, .ref q2, .ref q3, .null, .null, .null])), (q0, .inl (I, 40, .inl g0)), (q1, .inl (J, 40, .inr (.inr (.inr (.inr (fun i => if i < 40 then some (r1 i) else none)))))), (q2, .inl (J, 201, .inr (.inr (.inr (.inr (fun i => if i < 201 then some (r2 i) else none))))))] ++ va_pl (([] ++ (List.range 40).map r1) ++ (List.range 201).map r2) (vr_up (vr_up f0 ((List.range 40).map r1) (.inl (I, (32, .inl (fun _ => nI 0))))) ((List.range 201).map r2) (.inl (I, (8, .inl (fun _ => nI 0)))))) ++ [(q3, .inl (I, 201, .inl (fun _ => nI 0)))]) H := hP
  have hD : va_D A (([(h, .inr (0, [.ref q0, .ref q1, .ref q2, .ref q3, .null, .null, .null])), (q0, .inl (I, 40, .inl g0)), (q1, .inl (J, 40, .inr (.inr (.inr (.inr (fun i => if i < 40 then some (r1 i) else none)))))), (q2, .inl (J, 201, .inr (.inr (.inr (.inr (fun i => if i < 201 then some (r2 i) else none))))))] ++ va_pl (([] ++ (List.range 40).map r1) ++ (List.range 201).map r2) (vr_up (vr_up f0 ((List.range 40).map r1) (.inl (I, (32, .inl (fun _ => nI 0))))) ((List.range 201).map r2) (.inl (I, (8, .inl (fun _ => nI 0)))))) ++ [(q3, .inl (I, 201, .inl (fun _ => nI 0)))]) := hD
  refine lv_aload_n hx hb dX0_init_54 rfl (lv_at hl 0 rfl) ?_
  refine lv_bipush (v := (nI 32)) hx hb dX0_init_55 (by decide +kernel) ?_
  refine va_newa (atype := .int) (a0 := (32, .inl (fun _ => nI 0))) (ty := .int) hx hb (hT _ mw_47) rfl hK hP hD hS hA (fun cA => by rw [nI_0]; rfl) (by decide +kernel) (by decide +kernel) (by decide) (Nat.le_of_ble_eq_true rfl) (Nat.le_of_ble_eq_true rfl) dX0_init_57 (fun q4 cA H hK9 hP hD hS => ?_)
  have eA : cA = I := Option.some.inj (((hK9.2 2 _ rfl).2).symm.trans (hK.2 0 _ rfl).2)
  rw [eA] at hP hD
  have hP : va_P D vwCl ((([(h, .inr (0, [.ref q0, .ref q1, .ref q2, .ref q3, .null, .null, .null])), (q0, .inl (I, 40, .inl g0)), (q1, .inl (J, 40, .inr (.inr (.inr (.inr (fun i => if i < 40 then some (r1 i) else none)))))), (q2, .inl (J, 201, .inr (.inr (.inr (.inr (fun i => if i < 201 then some (r2 i) else none))))))] ++ va_pl (([] ++ (List.range 40).map r1) ++ (List.range 201).map r2) (vr_up (vr_up f0 ((List.range 40).map r1) (.inl (I, (32, .inl (fun _ => nI 0))))) ((List.range 201).map r2) (.inl (I, (8, .inl (fun _ => nI 0)))))) ++ [(q3, .inl (I, 201, .inl (fun _ => nI 0)))]) ++ [(q4, .inl (I, 32, .inl (fun _ => nI 0)))]) H := hP
  have hD : va_D A ((([(h, .inr (0, [.ref q0, .ref q1, .ref q2, .ref q3, .null, .null, .null])), (q0, .inl (I, 40, .inl g0)), (q1, .inl (J, 40, .inr (.inr (.inr (.inr (fun i => if i < 40 then some (r1 i) else none)))))), (q2, .inl (J, 201, .inr (.inr (.inr (.inr (fun i => if i < 201 then some (r2 i) else none))))))] ++ va_pl (([] ++ (List.range 40).map r1) ++ (List.range 201).map r2) (vr_up (vr_up f0 ((List.range 40).map r1) (.inl (I, (32, .inl (fun _ => nI 0))))) ((List.range 201).map r2) (.inl (I, (8, .inl (fun _ => nI 0)))))) ++ [(q3, .inl (I, 201, .inl (fun _ => nI 0)))]) ++ [(q4, .inl (I, 32, .inl (fun _ => nI 0)))]) := hD
  refine va_putF (D := D) (ci := 0) (C := RX0) (T := TX0) (N := 7) (ty := .array .int) (v := .ref q4) hx hb hT kx_in tyX0 tyX0_ok nmX0 hown hK hP hD hS 0 rfl rfl 4 (by decide) (hT _ mw_29) (fun x9 h9 => h9) rfl hin rfl (by decide +kernel) rfl rfl (Nat.le_of_ble_eq_true rfl) dX0_init_59 (fun H locs hP hD hS => ?_)
  have hP : va_P D vwCl ((([(h, .inr (0, [.ref q0, .ref q1, .ref q2, .ref q3, .ref q4, .null, .null])), (q0, .inl (I, 40, .inl g0)), (q1, .inl (J, 40, .inr (.inr (.inr (.inr (fun i => if i < 40 then some (r1 i) else none)))))), (q2, .inl (J, 201, .inr (.inr (.inr (.inr (fun i => if i < 201 then some (r2 i) else none))))))] ++ va_pl (([] ++ (List.range 40).map r1) ++ (List.range 201).map r2) (vr_up (vr_up f0 ((List.range 40).map r1) (.inl (I, (32, .inl (fun _ => nI 0))))) ((List.range 201).map r2) (.inl (I, (8, .inl (fun _ => nI 0)))))) ++ [(q3, .inl (I, 201, .inl (fun _ => nI 0)))]) ++ [(q4, .inl (I, 32, .inl (fun _ => nI 0)))]) H := hP
  have hD : va_D A ((([(h, .inr (0, [.ref q0, .ref q1, .ref q2, .ref q3, .ref q4, .null, .null])), (q0, .inl (I, 40, .inl g0)), (q1, .inl (J, 40, .inr (.inr (.inr (.inr (fun i => if i < 40 then some (r1 i) else none)))))), (q2, .inl (J, 201, .inr (.inr (.inr (.inr (fun i => if i < 201 then some (r2 i) else none))))))] ++ va_pl (([] ++ (List.range 40).map r1) ++ (List.range 201).map r2) (vr_up (vr_up f0 ((List.range 40).map r1) (.inl (I, (32, .inl (fun _ => nI 0))))) ((List.range 201).map r2) (.inl (I, (8, .inl (fun _ => nI 0)))))) ++ [(q3, .inl (I, 201, .inl (fun _ => nI 0)))]) ++ [(q4, .inl (I, 32, .inl (fun _ => nI 0)))]) := hD
  refine lv_aload_n hx hb dX0_init_62 rfl (lv_at hl 0 rfl) ?_
  refine lv_sipush (v := (nI 201)) hx hb dX0_init_63 (by decide +kernel) ?_
  refine va_newa (atype := .int) (a0 := (201, .inl (fun _ => nI 0))) (ty := .int) hx hb (hT _ mw_47) rfl hK hP hD hS hA (fun cA => by rw [nI_0]; rfl) (by decide +kernel) (by decide +kernel) (by decide) (Nat.le_of_ble_eq_true rfl) (Nat.le_of_ble_eq_true rfl) dX0_init_66 (fun q5 cA H hK9 hP hD hS => ?_)
  have eA : cA = I := Option.some.inj (((hK9.2 2 _ rfl).2).symm.trans (hK.2 0 _ rfl).2)
  rw [eA] at hP hD
  have hP : va_P D vwCl (((([(h, .inr (0, [.ref q0, .ref q1, .ref q2, .ref q3, .ref q4, .null, .null])), (q0, .inl (I, 40, .inl g0)), (q1, .inl (J, 40, .inr (.inr (.inr (.inr (fun i => if i < 40 then some (r1 i) else none)))))), (q2, .inl (J, 201, .inr (.inr (.inr (.inr (fun i => if i < 201 then some (r2 i) else none))))))] ++ va_pl (([] ++ (List.range 40).map r1) ++ (List.range 201).map r2) (vr_up (vr_up f0 ((List.range 40).map r1) (.inl (I, (32, .inl (fun _ => nI 0))))) ((List.range 201).map r2) (.inl (I, (8, .inl (fun _ => nI 0)))))) ++ [(q3, .inl (I, 201, .inl (fun _ => nI 0)))]) ++ [(q4, .inl (I, 32, .inl (fun _ => nI 0)))]) ++ [(q5, .inl (I, 201, .inl (fun _ => nI 0)))]) H := hP
  have hD : va_D A (((([(h, .inr (0, [.ref q0, .ref q1, .ref q2, .ref q3, .ref q4, .null, .null])), (q0, .inl (I, 40, .inl g0)), (q1, .inl (J, 40, .inr (.inr (.inr (.inr (fun i => if i < 40 then some (r1 i) else none)))))), (q2, .inl (J, 201, .inr (.inr (.inr (.inr (fun i => if i < 201 then some (r2 i) else none))))))] ++ va_pl (([] ++ (List.range 40).map r1) ++ (List.range 201).map r2) (vr_up (vr_up f0 ((List.range 40).map r1) (.inl (I, (32, .inl (fun _ => nI 0))))) ((List.range 201).map r2) (.inl (I, (8, .inl (fun _ => nI 0)))))) ++ [(q3, .inl (I, 201, .inl (fun _ => nI 0)))]) ++ [(q4, .inl (I, 32, .inl (fun _ => nI 0)))]) ++ [(q5, .inl (I, 201, .inl (fun _ => nI 0)))]) := hD
  refine va_putF (D := D) (ci := 0) (C := RX0) (T := TX0) (N := 7) (ty := .array .int) (v := .ref q5) hx hb hT kx_in tyX0 tyX0_ok nmX0 hown hK hP hD hS 0 rfl rfl 5 (by decide) (hT _ mw_30) (fun x9 h9 => h9) rfl hin rfl (by decide +kernel) rfl rfl (Nat.le_of_ble_eq_true rfl) dX0_init_68 (fun H locs hP hD hS => ?_)
  have hP : va_P D vwCl (((([(h, .inr (0, [.ref q0, .ref q1, .ref q2, .ref q3, .ref q4, .ref q5, .null])), (q0, .inl (I, 40, .inl g0)), (q1, .inl (J, 40, .inr (.inr (.inr (.inr (fun i => if i < 40 then some (r1 i) else none)))))), (q2, .inl (J, 201, .inr (.inr (.inr (.inr (fun i => if i < 201 then some (r2 i) else none))))))] ++ va_pl (([] ++ (List.range 40).map r1) ++ (List.range 201).map r2) (vr_up (vr_up f0 ((List.range 40).map r1) (.inl (I, (32, .inl (fun _ => nI 0))))) ((List.range 201).map r2) (.inl (I, (8, .inl (fun _ => nI 0)))))) ++ [(q3, .inl (I, 201, .inl (fun _ => nI 0)))]) ++ [(q4, .inl (I, 32, .inl (fun _ => nI 0)))]) ++ [(q5, .inl (I, 201, .inl (fun _ => nI 0)))]) H := hP
  have hD : va_D A (((([(h, .inr (0, [.ref q0, .ref q1, .ref q2, .ref q3, .ref q4, .ref q5, .null])), (q0, .inl (I, 40, .inl g0)), (q1, .inl (J, 40, .inr (.inr (.inr (.inr (fun i => if i < 40 then some (r1 i) else none)))))), (q2, .inl (J, 201, .inr (.inr (.inr (.inr (fun i => if i < 201 then some (r2 i) else none))))))] ++ va_pl (([] ++ (List.range 40).map r1) ++ (List.range 201).map r2) (vr_up (vr_up f0 ((List.range 40).map r1) (.inl (I, (32, .inl (fun _ => nI 0))))) ((List.range 201).map r2) (.inl (I, (8, .inl (fun _ => nI 0)))))) ++ [(q3, .inl (I, 201, .inl (fun _ => nI 0)))]) ++ [(q4, .inl (I, 32, .inl (fun _ => nI 0)))]) ++ [(q5, .inl (I, 201, .inl (fun _ => nI 0)))]) := hD
  refine lv_aload_n hx hb dX0_init_71 rfl (lv_at hl 0 rfl) ?_
  refine lv_sipush (v := (nI 201)) hx hb dX0_init_72 (by decide +kernel) ?_
  refine va_newa (atype := .int) (a0 := (201, .inl (fun _ => nI 0))) (ty := .int) hx hb (hT _ mw_47) rfl hK hP hD hS hA (fun cA => by rw [nI_0]; rfl) (by decide +kernel) (by decide +kernel) (by decide) (Nat.le_of_ble_eq_true rfl) (Nat.le_of_ble_eq_true rfl) dX0_init_75 (fun q6 cA H hK9 hP hD hS => ?_)
  have eA : cA = I := Option.some.inj (((hK9.2 2 _ rfl).2).symm.trans (hK.2 0 _ rfl).2)
  rw [eA] at hP hD
  have hP : va_P D vwCl ((((([(h, .inr (0, [.ref q0, .ref q1, .ref q2, .ref q3, .ref q4, .ref q5, .null])), (q0, .inl (I, 40, .inl g0)), (q1, .inl (J, 40, .inr (.inr (.inr (.inr (fun i => if i < 40 then some (r1 i) else none)))))), (q2, .inl (J, 201, .inr (.inr (.inr (.inr (fun i => if i < 201 then some (r2 i) else none))))))] ++ va_pl (([] ++ (List.range 40).map r1) ++ (List.range 201).map r2) (vr_up (vr_up f0 ((List.range 40).map r1) (.inl (I, (32, .inl (fun _ => nI 0))))) ((List.range 201).map r2) (.inl (I, (8, .inl (fun _ => nI 0)))))) ++ [(q3, .inl (I, 201, .inl (fun _ => nI 0)))]) ++ [(q4, .inl (I, 32, .inl (fun _ => nI 0)))]) ++ [(q5, .inl (I, 201, .inl (fun _ => nI 0)))]) ++ [(q6, .inl (I, 201, .inl (fun _ => nI 0)))]) H := hP
  have hD : va_D A ((((([(h, .inr (0, [.ref q0, .ref q1, .ref q2, .ref q3, .ref q4, .ref q5, .null])), (q0, .inl (I, 40, .inl g0)), (q1, .inl (J, 40, .inr (.inr (.inr (.inr (fun i => if i < 40 then some (r1 i) else none)))))), (q2, .inl (J, 201, .inr (.inr (.inr (.inr (fun i => if i < 201 then some (r2 i) else none))))))] ++ va_pl (([] ++ (List.range 40).map r1) ++ (List.range 201).map r2) (vr_up (vr_up f0 ((List.range 40).map r1) (.inl (I, (32, .inl (fun _ => nI 0))))) ((List.range 201).map r2) (.inl (I, (8, .inl (fun _ => nI 0)))))) ++ [(q3, .inl (I, 201, .inl (fun _ => nI 0)))]) ++ [(q4, .inl (I, 32, .inl (fun _ => nI 0)))]) ++ [(q5, .inl (I, 201, .inl (fun _ => nI 0)))]) ++ [(q6, .inl (I, 201, .inl (fun _ => nI 0)))]) := hD
  refine va_putF (D := D) (ci := 0) (C := RX0) (T := TX0) (N := 7) (ty := .array .int) (v := .ref q6) hx hb hT kx_in tyX0 tyX0_ok nmX0 hown hK hP hD hS 0 rfl rfl 6 (by decide) (hT _ mw_31) (fun x9 h9 => h9) rfl hin rfl (by decide +kernel) rfl rfl (Nat.le_of_ble_eq_true rfl) dX0_init_77 (fun H locs hP hD hS => ?_)
  have hP : va_P D vwCl ((((([(h, .inr (0, [.ref q0, .ref q1, .ref q2, .ref q3, .ref q4, .ref q5, .ref q6])), (q0, .inl (I, 40, .inl g0)), (q1, .inl (J, 40, .inr (.inr (.inr (.inr (fun i => if i < 40 then some (r1 i) else none)))))), (q2, .inl (J, 201, .inr (.inr (.inr (.inr (fun i => if i < 201 then some (r2 i) else none))))))] ++ va_pl (([] ++ (List.range 40).map r1) ++ (List.range 201).map r2) (vr_up (vr_up f0 ((List.range 40).map r1) (.inl (I, (32, .inl (fun _ => nI 0))))) ((List.range 201).map r2) (.inl (I, (8, .inl (fun _ => nI 0)))))) ++ [(q3, .inl (I, 201, .inl (fun _ => nI 0)))]) ++ [(q4, .inl (I, 32, .inl (fun _ => nI 0)))]) ++ [(q5, .inl (I, 201, .inl (fun _ => nI 0)))]) ++ [(q6, .inl (I, 201, .inl (fun _ => nI 0)))]) H := hP
  have hD : va_D A ((((([(h, .inr (0, [.ref q0, .ref q1, .ref q2, .ref q3, .ref q4, .ref q5, .ref q6])), (q0, .inl (I, 40, .inl g0)), (q1, .inl (J, 40, .inr (.inr (.inr (.inr (fun i => if i < 40 then some (r1 i) else none)))))), (q2, .inl (J, 201, .inr (.inr (.inr (.inr (fun i => if i < 201 then some (r2 i) else none))))))] ++ va_pl (([] ++ (List.range 40).map r1) ++ (List.range 201).map r2) (vr_up (vr_up f0 ((List.range 40).map r1) (.inl (I, (32, .inl (fun _ => nI 0))))) ((List.range 201).map r2) (.inl (I, (8, .inl (fun _ => nI 0)))))) ++ [(q3, .inl (I, 201, .inl (fun _ => nI 0)))]) ++ [(q4, .inl (I, 32, .inl (fun _ => nI 0)))]) ++ [(q5, .inl (I, 201, .inl (fun _ => nI 0)))]) ++ [(q6, .inl (I, 201, .inl (fun _ => nI 0)))]) := hD
  have hP : va_P D vwCl (([(h, .inr (0, [.ref q0, .ref q1, .ref q2, .ref q3, .ref q4, .ref q5, .ref q6])), (q0, .inl (I, 40, .inl g0)), (q1, .inl (J, 40, .inr (.inr (.inr (.inr (fun i => if i < 40 then some (r1 i) else none)))))), (q2, .inl (J, 201, .inr (.inr (.inr (.inr (fun i => if i < 201 then some (r2 i) else none))))))] ++ va_pl (([] ++ (List.range 40).map r1) ++ (List.range 201).map r2) (vr_up (vr_up f0 ((List.range 40).map r1) (.inl (I, (32, .inl (fun _ => nI 0))))) ((List.range 201).map r2) (.inl (I, (8, .inl (fun _ => nI 0)))))) ++ [(q3, .inl (I, 201, .inl (fun _ => nI 0))), (q4, .inl (I, 32, .inl (fun _ => nI 0))), (q5, .inl (I, 201, .inl (fun _ => nI 0))), (q6, .inl (I, 201, .inl (fun _ => nI 0)))]) H := by
    have e9 : ((((([(h, .inr (0, [.ref q0, .ref q1, .ref q2, .ref q3, .ref q4, .ref q5, .ref q6])), (q0, .inl (I, 40, .inl g0)), (q1, .inl (J, 40, .inr (.inr (.inr (.inr (fun i => if i < 40 then some (r1 i) else none)))))), (q2, .inl (J, 201, .inr (.inr (.inr (.inr (fun i => if i < 201 then some (r2 i) else none))))))] ++ va_pl (([] ++ (List.range 40).map r1) ++ (List.range 201).map r2) (vr_up (vr_up f0 ((List.range 40).map r1) (.inl (I, (32, .inl (fun _ => nI 0))))) ((List.range 201).map r2) (.inl (I, (8, .inl (fun _ => nI 0)))))) ++ [(q3, .inl (I, 201, .inl (fun _ => nI 0)))]) ++ [(q4, .inl (I, 32, .inl (fun _ => nI 0)))]) ++ [(q5, .inl (I, 201, .inl (fun _ => nI 0)))]) ++ [(q6, .inl (I, 201, .inl (fun _ => nI 0)))]) = (([(h, .inr (0, [.ref q0, .ref q1, .ref q2, .ref q3, .ref q4, .ref q5, .ref q6])), (q0, .inl (I, 40, .inl g0)), (q1, .inl (J, 40, .inr (.inr (.inr (.inr (fun i => if i < 40 then some (r1 i) else none)))))), (q2, .inl (J, 201, .inr (.inr (.inr (.inr (fun i => if i < 201 then some (r2 i) else none))))))] ++ va_pl (([] ++ (List.range 40).map r1) ++ (List.range 201).map r2) (vr_up (vr_up f0 ((List.range 40).map r1) (.inl (I, (32, .inl (fun _ => nI 0))))) ((List.range 201).map r2) (.inl (I, (8, .inl (fun _ => nI 0)))))) ++ [(q3, .inl (I, 201, .inl (fun _ => nI 0))), (q4, .inl (I, 32, .inl (fun _ => nI 0))), (q5, .inl (I, 201, .inl (fun _ => nI 0))), (q6, .inl (I, 201, .inl (fun _ => nI 0)))]) := by simp only [List.append_assoc, List.cons_append, List.nil_append]
    rw [e9] at hP
    exact hP
  have hD : va_D A (([(h, .inr (0, [.ref q0, .ref q1, .ref q2, .ref q3, .ref q4, .ref q5, .ref q6])), (q0, .inl (I, 40, .inl g0)), (q1, .inl (J, 40, .inr (.inr (.inr (.inr (fun i => if i < 40 then some (r1 i) else none)))))), (q2, .inl (J, 201, .inr (.inr (.inr (.inr (fun i => if i < 201 then some (r2 i) else none))))))] ++ va_pl (([] ++ (List.range 40).map r1) ++ (List.range 201).map r2) (vr_up (vr_up f0 ((List.range 40).map r1) (.inl (I, (32, .inl (fun _ => nI 0))))) ((List.range 201).map r2) (.inl (I, (8, .inl (fun _ => nI 0)))))) ++ [(q3, .inl (I, 201, .inl (fun _ => nI 0))), (q4, .inl (I, 32, .inl (fun _ => nI 0))), (q5, .inl (I, 201, .inl (fun _ => nI 0))), (q6, .inl (I, 201, .inl (fun _ => nI 0)))]) := by
    have e9 : ((((([(h, .inr (0, [.ref q0, .ref q1, .ref q2, .ref q3, .ref q4, .ref q5, .ref q6])), (q0, .inl (I, 40, .inl g0)), (q1, .inl (J, 40, .inr (.inr (.inr (.inr (fun i => if i < 40 then some (r1 i) else none)))))), (q2, .inl (J, 201, .inr (.inr (.inr (.inr (fun i => if i < 201 then some (r2 i) else none))))))] ++ va_pl (([] ++ (List.range 40).map r1) ++ (List.range 201).map r2) (vr_up (vr_up f0 ((List.range 40).map r1) (.inl (I, (32, .inl (fun _ => nI 0))))) ((List.range 201).map r2) (.inl (I, (8, .inl (fun _ => nI 0)))))) ++ [(q3, .inl (I, 201, .inl (fun _ => nI 0)))]) ++ [(q4, .inl (I, 32, .inl (fun _ => nI 0)))]) ++ [(q5, .inl (I, 201, .inl (fun _ => nI 0)))]) ++ [(q6, .inl (I, 201, .inl (fun _ => nI 0)))]) = (([(h, .inr (0, [.ref q0, .ref q1, .ref q2, .ref q3, .ref q4, .ref q5, .ref q6])), (q0, .inl (I, 40, .inl g0)), (q1, .inl (J, 40, .inr (.inr (.inr (.inr (fun i => if i < 40 then some (r1 i) else none)))))), (q2, .inl (J, 201, .inr (.inr (.inr (.inr (fun i => if i < 201 then some (r2 i) else none))))))] ++ va_pl (([] ++ (List.range 40).map r1) ++ (List.range 201).map r2) (vr_up (vr_up f0 ((List.range 40).map r1) (.inl (I, (32, .inl (fun _ => nI 0))))) ((List.range 201).map r2) (.inl (I, (8, .inl (fun _ => nI 0)))))) ++ [(q3, .inl (I, 201, .inl (fun _ => nI 0))), (q4, .inl (I, 32, .inl (fun _ => nI 0))), (q5, .inl (I, 201, .inl (fun _ => nI 0))), (q6, .inl (I, 201, .inl (fun _ => nI 0)))]) := by simp only [List.append_assoc, List.cons_append, List.nil_append]
    rw [e9] at hD
    exact hD
  have hlen : (va_pl (([] ++ (List.range 40).map r1) ++ (List.range 201).map r2) (vr_up (vr_up f0 ((List.range 40).map r1) (.inl (I, (32, .inl (fun _ => nI 0))))) ((List.range 201).map r2) (.inl (I, (8, .inl (fun _ => nI 0)))))).length = 241 := by unfold va_pl; simp
  have hr1 : ∀ r, r < 40 → (va_pl (([] ++ (List.range 40).map r1) ++ (List.range 201).map r2) (vr_up (vr_up f0 ((List.range 40).map r1) (.inl (I, (32, .inl (fun _ => nI 0))))) ((List.range 201).map r2) (.inl (I, (8, .inl (fun _ => nI 0))))))[r]? = some (r1 r, .inl (I, (32, .inl (fun _ => nI 0)))) := fun r hr => by
    unfold va_pl
    rw [List.getElem?_map, List.nil_append, List.getElem?_append_left (by simp; exact hr), List.getElem?_map, List.getElem?_range hr]
    show some (r1 r, _) = _
    rw [vr_up_ne (fun w => by
      obtain ⟨i, hi, e9⟩ := List.mem_map.mp w
      exact nin_r2 i (List.mem_range.mp hi) (by rw [e9, List.nil_append]; exact List.mem_map.mpr ⟨r, List.mem_range.mpr hr, rfl⟩)), vr_up_in (List.mem_map.mpr ⟨r, List.mem_range.mpr hr, rfl⟩)]
  have hr2 : ∀ k, k < 201 → (va_pl (([] ++ (List.range 40).map r1) ++ (List.range 201).map r2) (vr_up (vr_up f0 ((List.range 40).map r1) (.inl (I, (32, .inl (fun _ => nI 0))))) ((List.range 201).map r2) (.inl (I, (8, .inl (fun _ => nI 0))))))[40 + k]? = some (r2 k, .inl (I, (8, .inl (fun _ => nI 0)))) := fun k hk => by
    unfold va_pl
    rw [List.getElem?_map, List.nil_append, List.getElem?_append_right (by simp), List.length_map, List.length_range, show 40 + k - 40 = k by omega, List.getElem?_map, List.getElem?_range hk]
    show some (r2 k, _) = _
    rw [vr_up_in (List.mem_map.mpr ⟨k, List.mem_range.mpr hk, rfl⟩)]
  obtain ⟨G, hG⟩ : ∃ G : kg_T, G = (h, q1, q2, (fun k => if k = 0 then q0 else if k = 1 then q3 else if k = 2 then q4 else if k = 3 then q5 else if k = 4 then q6 else if k < 45 then r1 (k - 5) else r2 (k - 45)), D, I, J) := ⟨_, rfl⟩
  have a5 : ∀ r, r < 40 → kg_a G (5 + r) = r1 r := fun r hr => by
    rw [hG]
    show (if 5 + r = 0 then q0 else if 5 + r = 1 then q3 else if 5 + r = 2 then q4 else if 5 + r = 3 then q5 else if 5 + r = 4 then q6 else if 5 + r < 45 then r1 (5 + r - 5) else r2 (5 + r - 45)) = r1 r
    rw [if_neg (by omega), if_neg (by omega), if_neg (by omega), if_neg (by omega), if_neg (by omega), if_pos (by omega), show 5 + r - 5 = r by omega]
  have a45 : ∀ k, kg_a G (45 + k) = r2 k := fun k => by
    rw [hG]
    show (if 45 + k = 0 then q0 else if 45 + k = 1 then q3 else if 45 + k = 2 then q4 else if 45 + k = 3 then q5 else if 45 + k = 4 then q6 else if 45 + k < 45 then r1 (45 + k - 5) else r2 (45 + k - 45)) = r2 k
    rw [if_neg (by omega), if_neg (by omega), if_neg (by omega), if_neg (by omega), if_neg (by omega), if_neg (by omega), show 45 + k - 45 = k by omega]
  have gD : kg_D G = D := by rw [hG]; rfl
  have gI : kg_I G = I := by rw [hG]; rfl
  have gJ : kg_J G = J := by rw [hG]; rfl
  have gh : kg_h G = h := by rw [hG]; rfl
  have g0' : kg_a G 0 = q0 := by rw [hG]; rfl
  have g1 : kg_a G 1 = q3 := by rw [hG]; rfl
  have g2 : kg_a G 2 = q4 := by rw [hG]; rfl
  have g3 : kg_a G 3 = q5 := by rw [hG]; rfl
  have g4 : kg_a G 4 = q6 := by rw [hG]; rfl
  have gf : kg_f G = q1 := by rw [hG]; rfl
  have gc : kg_c G = q2 := by rw [hG]; rfl
  have hent : ∀ i, i < 249 → ∃ x y : Nat × va_E, ((([(h, .inr (0, [.ref q0, .ref q1, .ref q2, .ref q3, .ref q4, .ref q5, .ref q6])), (q0, .inl (I, 40, .inl g0)), (q1, .inl (J, 40, .inr (.inr (.inr (.inr (fun i => if i < 40 then some (r1 i) else none)))))), (q2, .inl (J, 201, .inr (.inr (.inr (.inr (fun i => if i < 201 then some (r2 i) else none))))))] ++ va_pl (([] ++ (List.range 40).map r1) ++ (List.range 201).map r2) (vr_up (vr_up f0 ((List.range 40).map r1) (.inl (I, (32, .inl (fun _ => nI 0))))) ((List.range 201).map r2) (.inl (I, (8, .inl (fun _ => nI 0)))))) ++ [(q3, .inl (I, 201, .inl (fun _ => nI 0))), (q4, .inl (I, 32, .inl (fun _ => nI 0))), (q5, .inl (I, 201, .inl (fun _ => nI 0))), (q6, .inl (I, 201, .inl (fun _ => nI 0)))]))[ki_pi i]? = some x ∧ (kc_L G ks_0)[i]? = some y ∧ x.1 = y.1 ∧ va_at D vwCl y H := by
    intro i hi
    rcases (show i = 0 ∨ i = 1 ∨ i = 2 ∨ i = 3 ∨ i = 4 ∨ i = 5 ∨ i = 6 ∨ i = 7 ∨ (∃ r, r < 40 ∧ i = 3 + (5 + r)) ∨ (∃ k, k < 201 ∧ i = 3 + (45 + k)) by
      by_cases h8 : i < 8
      · omega
      · by_cases h48 : i < 48
        · exact Or.inr (Or.inr (Or.inr (Or.inr (Or.inr (Or.inr (Or.inr (Or.inr (Or.inl ⟨i - 8, by omega, by omega⟩))))))))
        · exact Or.inr (Or.inr (Or.inr (Or.inr (Or.inr (Or.inr (Or.inr (Or.inr (Or.inr ⟨i - 48, by omega, by omega⟩))))))))) with rfl | rfl | rfl | rfl | rfl | rfl | rfl | rfl | ⟨r, hr9, rfl⟩ | ⟨k, hk9, rfl⟩
    · refine ⟨_, _, show ((([(h, .inr (0, [.ref q0, .ref q1, .ref q2, .ref q3, .ref q4, .ref q5, .ref q6])), (q0, .inl (I, 40, .inl g0)), (q1, .inl (J, 40, .inr (.inr (.inr (.inr (fun i => if i < 40 then some (r1 i) else none)))))), (q2, .inl (J, 201, .inr (.inr (.inr (.inr (fun i => if i < 201 then some (r2 i) else none))))))] ++ va_pl (([] ++ (List.range 40).map r1) ++ (List.range 201).map r2) (vr_up (vr_up f0 ((List.range 40).map r1) (.inl (I, (32, .inl (fun _ => nI 0))))) ((List.range 201).map r2) (.inl (I, (8, .inl (fun _ => nI 0)))))) ++ [(q3, .inl (I, 201, .inl (fun _ => nI 0))), (q4, .inl (I, 32, .inl (fun _ => nI 0))), (q5, .inl (I, 201, .inl (fun _ => nI 0))), (q6, .inl (I, 201, .inl (fun _ => nI 0)))]))[0]? = _ from rfl, rfl, gh.symm, ?_⟩
      have e9 := hP 0 _ rfl
      show va_at D vwCl (kg_h G, .inr (0, [.ref (kg_a G 0), .ref (kg_f G), .ref (kg_c G), .ref (kg_a G 1), .ref (kg_a G 2), .ref (kg_a G 3), .ref (kg_a G 4)])) H
      rw [gh, g0', g1, g2, g3, g4, gf, gc]
      exact e9
    · refine ⟨_, _, show ((([(h, .inr (0, [.ref q0, .ref q1, .ref q2, .ref q3, .ref q4, .ref q5, .ref q6])), (q0, .inl (I, 40, .inl g0)), (q1, .inl (J, 40, .inr (.inr (.inr (.inr (fun i => if i < 40 then some (r1 i) else none)))))), (q2, .inl (J, 201, .inr (.inr (.inr (.inr (fun i => if i < 201 then some (r2 i) else none))))))] ++ va_pl (([] ++ (List.range 40).map r1) ++ (List.range 201).map r2) (vr_up (vr_up f0 ((List.range 40).map r1) (.inl (I, (32, .inl (fun _ => nI 0))))) ((List.range 201).map r2) (.inl (I, (8, .inl (fun _ => nI 0)))))) ++ [(q3, .inl (I, 201, .inl (fun _ => nI 0))), (q4, .inl (I, 32, .inl (fun _ => nI 0))), (q5, .inl (I, 201, .inl (fun _ => nI 0))), (q6, .inl (I, 201, .inl (fun _ => nI 0)))]))[2]? = _ from rfl, rfl, gf.symm, ?_⟩
      have e9 : H[q1]? = some (vp_cell J (40, .inr (.inr (.inr (.inr (fun i => if i < 40 then some (r1 i) else none)))))) := hP 2 _ rfl
      show H[kg_f G]? = some (vp_cell (kg_J G) (40, .inr (.inr (.inr (.inr (fun i => some (kg_a G (5 + i))))))))
      rw [gf, gJ, e9, vc_q (g := fun i => some (kg_a G (5 + i))) (fun j hj => by rw [if_pos hj, a5 j hj])]
    · refine ⟨_, _, show ((([(h, .inr (0, [.ref q0, .ref q1, .ref q2, .ref q3, .ref q4, .ref q5, .ref q6])), (q0, .inl (I, 40, .inl g0)), (q1, .inl (J, 40, .inr (.inr (.inr (.inr (fun i => if i < 40 then some (r1 i) else none)))))), (q2, .inl (J, 201, .inr (.inr (.inr (.inr (fun i => if i < 201 then some (r2 i) else none))))))] ++ va_pl (([] ++ (List.range 40).map r1) ++ (List.range 201).map r2) (vr_up (vr_up f0 ((List.range 40).map r1) (.inl (I, (32, .inl (fun _ => nI 0))))) ((List.range 201).map r2) (.inl (I, (8, .inl (fun _ => nI 0)))))) ++ [(q3, .inl (I, 201, .inl (fun _ => nI 0))), (q4, .inl (I, 32, .inl (fun _ => nI 0))), (q5, .inl (I, 201, .inl (fun _ => nI 0))), (q6, .inl (I, 201, .inl (fun _ => nI 0)))]))[3]? = _ from rfl, rfl, gc.symm, ?_⟩
      have e9 : H[q2]? = some (vp_cell J (201, .inr (.inr (.inr (.inr (fun i => if i < 201 then some (r2 i) else none)))))) := hP 3 _ rfl
      show H[kg_c G]? = some (vp_cell (kg_J G) (201, .inr (.inr (.inr (.inr (fun i => some (kg_a G (45 + i))))))))
      rw [gc, gJ, e9, vc_q (g := fun i => some (kg_a G (45 + i))) (fun j hj => by rw [if_pos hj, a45 j])]
    · refine ⟨_, _, show ((([(h, .inr (0, [.ref q0, .ref q1, .ref q2, .ref q3, .ref q4, .ref q5, .ref q6])), (q0, .inl (I, 40, .inl g0)), (q1, .inl (J, 40, .inr (.inr (.inr (.inr (fun i => if i < 40 then some (r1 i) else none)))))), (q2, .inl (J, 201, .inr (.inr (.inr (.inr (fun i => if i < 201 then some (r2 i) else none))))))] ++ va_pl (([] ++ (List.range 40).map r1) ++ (List.range 201).map r2) (vr_up (vr_up f0 ((List.range 40).map r1) (.inl (I, (32, .inl (fun _ => nI 0))))) ((List.range 201).map r2) (.inl (I, (8, .inl (fun _ => nI 0)))))) ++ [(q3, .inl (I, 201, .inl (fun _ => nI 0))), (q4, .inl (I, 32, .inl (fun _ => nI 0))), (q5, .inl (I, 201, .inl (fun _ => nI 0))), (q6, .inl (I, 201, .inl (fun _ => nI 0)))]))[1]? = _ from rfl, kc_pos G ks_0 (k := 0) (by omega), g0'.symm, ?_⟩
      have e9 : H[q0]? = some (vp_cell I (40, .inl g0)) := hP 1 _ rfl
      show H[kg_a G 0]? = some (vp_cell (kg_I G) (40, .inl (kc_d ks_0 0)))
      rw [g0', gI, e9, vc_i (g := kc_d ks_0 0) (fun j hj => by rw [hg0 j hj]; rfl)]
    · have e8 : ((([(h, .inr (0, [.ref q0, .ref q1, .ref q2, .ref q3, .ref q4, .ref q5, .ref q6])), (q0, .inl (I, 40, .inl g0)), (q1, .inl (J, 40, .inr (.inr (.inr (.inr (fun i => if i < 40 then some (r1 i) else none)))))), (q2, .inl (J, 201, .inr (.inr (.inr (.inr (fun i => if i < 201 then some (r2 i) else none))))))] ++ va_pl (([] ++ (List.range 40).map r1) ++ (List.range 201).map r2) (vr_up (vr_up f0 ((List.range 40).map r1) (.inl (I, (32, .inl (fun _ => nI 0))))) ((List.range 201).map r2) (.inl (I, (8, .inl (fun _ => nI 0)))))) ++ [(q3, .inl (I, 201, .inl (fun _ => nI 0))), (q4, .inl (I, 32, .inl (fun _ => nI 0))), (q5, .inl (I, 201, .inl (fun _ => nI 0))), (q6, .inl (I, 201, .inl (fun _ => nI 0)))]))[245 + 0]? = some (q3, .inl (I, 201, .inl (fun _ => nI 0))) := ap_r (n := 245) (k := 0) (by rw [hlen]; rfl)
      refine ⟨_, _, e8, kc_pos G ks_0 (k := 1) (by omega), g1.symm, ?_⟩
      have e9 : H[q3]? = some (vp_cell I (201, .inl (fun _ => nI 0))) := hP _ _ e8
      show H[kg_a G 1]? = some (vp_cell (kg_I G) (201, .inl (kc_d ks_0 1)))
      rw [g1, gI, e9]
      rfl
    · have e8 : ((([(h, .inr (0, [.ref q0, .ref q1, .ref q2, .ref q3, .ref q4, .ref q5, .ref q6])), (q0, .inl (I, 40, .inl g0)), (q1, .inl (J, 40, .inr (.inr (.inr (.inr (fun i => if i < 40 then some (r1 i) else none)))))), (q2, .inl (J, 201, .inr (.inr (.inr (.inr (fun i => if i < 201 then some (r2 i) else none))))))] ++ va_pl (([] ++ (List.range 40).map r1) ++ (List.range 201).map r2) (vr_up (vr_up f0 ((List.range 40).map r1) (.inl (I, (32, .inl (fun _ => nI 0))))) ((List.range 201).map r2) (.inl (I, (8, .inl (fun _ => nI 0)))))) ++ [(q3, .inl (I, 201, .inl (fun _ => nI 0))), (q4, .inl (I, 32, .inl (fun _ => nI 0))), (q5, .inl (I, 201, .inl (fun _ => nI 0))), (q6, .inl (I, 201, .inl (fun _ => nI 0)))]))[245 + 1]? = some (q4, .inl (I, 32, .inl (fun _ => nI 0))) := ap_r (n := 245) (k := 1) (by rw [hlen]; rfl)
      refine ⟨_, _, e8, kc_pos G ks_0 (k := 2) (by omega), g2.symm, ?_⟩
      have e9 : H[q4]? = some (vp_cell I (32, .inl (fun _ => nI 0))) := hP _ _ e8
      show H[kg_a G 2]? = some (vp_cell (kg_I G) (32, .inl (kc_d ks_0 2)))
      rw [g2, gI, e9]
      rfl
    · have e8 : ((([(h, .inr (0, [.ref q0, .ref q1, .ref q2, .ref q3, .ref q4, .ref q5, .ref q6])), (q0, .inl (I, 40, .inl g0)), (q1, .inl (J, 40, .inr (.inr (.inr (.inr (fun i => if i < 40 then some (r1 i) else none)))))), (q2, .inl (J, 201, .inr (.inr (.inr (.inr (fun i => if i < 201 then some (r2 i) else none))))))] ++ va_pl (([] ++ (List.range 40).map r1) ++ (List.range 201).map r2) (vr_up (vr_up f0 ((List.range 40).map r1) (.inl (I, (32, .inl (fun _ => nI 0))))) ((List.range 201).map r2) (.inl (I, (8, .inl (fun _ => nI 0)))))) ++ [(q3, .inl (I, 201, .inl (fun _ => nI 0))), (q4, .inl (I, 32, .inl (fun _ => nI 0))), (q5, .inl (I, 201, .inl (fun _ => nI 0))), (q6, .inl (I, 201, .inl (fun _ => nI 0)))]))[245 + 2]? = some (q5, .inl (I, 201, .inl (fun _ => nI 0))) := ap_r (n := 245) (k := 2) (by rw [hlen]; rfl)
      refine ⟨_, _, e8, kc_pos G ks_0 (k := 3) (by omega), g3.symm, ?_⟩
      have e9 : H[q5]? = some (vp_cell I (201, .inl (fun _ => nI 0))) := hP _ _ e8
      show H[kg_a G 3]? = some (vp_cell (kg_I G) (201, .inl (kc_d ks_0 3)))
      rw [g3, gI, e9]
      rfl
    · have e8 : ((([(h, .inr (0, [.ref q0, .ref q1, .ref q2, .ref q3, .ref q4, .ref q5, .ref q6])), (q0, .inl (I, 40, .inl g0)), (q1, .inl (J, 40, .inr (.inr (.inr (.inr (fun i => if i < 40 then some (r1 i) else none)))))), (q2, .inl (J, 201, .inr (.inr (.inr (.inr (fun i => if i < 201 then some (r2 i) else none))))))] ++ va_pl (([] ++ (List.range 40).map r1) ++ (List.range 201).map r2) (vr_up (vr_up f0 ((List.range 40).map r1) (.inl (I, (32, .inl (fun _ => nI 0))))) ((List.range 201).map r2) (.inl (I, (8, .inl (fun _ => nI 0)))))) ++ [(q3, .inl (I, 201, .inl (fun _ => nI 0))), (q4, .inl (I, 32, .inl (fun _ => nI 0))), (q5, .inl (I, 201, .inl (fun _ => nI 0))), (q6, .inl (I, 201, .inl (fun _ => nI 0)))]))[245 + 3]? = some (q6, .inl (I, 201, .inl (fun _ => nI 0))) := ap_r (n := 245) (k := 3) (by rw [hlen]; rfl)
      refine ⟨_, _, e8, kc_pos G ks_0 (k := 4) (by omega), g4.symm, ?_⟩
      have e9 : H[q6]? = some (vp_cell I (201, .inl (fun _ => nI 0))) := hP _ _ e8
      show H[kg_a G 4]? = some (vp_cell (kg_I G) (201, .inl (kc_d ks_0 4)))
      rw [g4, gI, e9]
      rfl
    · have e7 : ki_pi (3 + (5 + r)) = 4 + r := by
        unfold ki_pi
        rw [if_neg (by omega), if_neg (by omega), if_neg (by omega), if_neg (by omega), if_neg (by omega)]
        omega
      have e8 : ((([(h, .inr (0, [.ref q0, .ref q1, .ref q2, .ref q3, .ref q4, .ref q5, .ref q6])), (q0, .inl (I, 40, .inl g0)), (q1, .inl (J, 40, .inr (.inr (.inr (.inr (fun i => if i < 40 then some (r1 i) else none)))))), (q2, .inl (J, 201, .inr (.inr (.inr (.inr (fun i => if i < 201 then some (r2 i) else none))))))] ++ va_pl (([] ++ (List.range 40).map r1) ++ (List.range 201).map r2) (vr_up (vr_up f0 ((List.range 40).map r1) (.inl (I, (32, .inl (fun _ => nI 0))))) ((List.range 201).map r2) (.inl (I, (8, .inl (fun _ => nI 0)))))) ++ [(q3, .inl (I, 201, .inl (fun _ => nI 0))), (q4, .inl (I, 32, .inl (fun _ => nI 0))), (q5, .inl (I, 201, .inl (fun _ => nI 0))), (q6, .inl (I, 201, .inl (fun _ => nI 0)))]))[4 + r]? = some (r1 r, .inl (I, (32, .inl (fun _ => nI 0)))) := (ap_m (n := 4) rfl (by rw [hlen]; omega)).trans (hr1 r hr9)
      refine ⟨_, _, by rw [e7]; exact e8, kc_pos G ks_0 (k := 5 + r) (by omega), (a5 r hr9).symm, ?_⟩
      have e9 : H[r1 r]? = some (vp_cell I (32, .inl (fun _ => nI 0))) := hP _ _ e8
      show H[kg_a G (5 + r)]? = some (vp_cell (kg_I G) (kc_n (5 + r), .inl (kc_d ks_0 (5 + r))))
      rw [a5 r hr9, gI, e9, kc_nF hr9, vc_i (g := kc_d ks_0 (5 + r)) (fun j hj => by rw [kc_dF _ _ hr9]; rfl)]
    · have e7 : ki_pi (3 + (45 + k)) = 4 + (40 + k) := by
        unfold ki_pi
        rw [if_neg (by omega), if_neg (by omega), if_neg (by omega), if_neg (by omega), if_neg (by omega)]
        omega
      have e8 : ((([(h, .inr (0, [.ref q0, .ref q1, .ref q2, .ref q3, .ref q4, .ref q5, .ref q6])), (q0, .inl (I, 40, .inl g0)), (q1, .inl (J, 40, .inr (.inr (.inr (.inr (fun i => if i < 40 then some (r1 i) else none)))))), (q2, .inl (J, 201, .inr (.inr (.inr (.inr (fun i => if i < 201 then some (r2 i) else none))))))] ++ va_pl (([] ++ (List.range 40).map r1) ++ (List.range 201).map r2) (vr_up (vr_up f0 ((List.range 40).map r1) (.inl (I, (32, .inl (fun _ => nI 0))))) ((List.range 201).map r2) (.inl (I, (8, .inl (fun _ => nI 0)))))) ++ [(q3, .inl (I, 201, .inl (fun _ => nI 0))), (q4, .inl (I, 32, .inl (fun _ => nI 0))), (q5, .inl (I, 201, .inl (fun _ => nI 0))), (q6, .inl (I, 201, .inl (fun _ => nI 0)))]))[4 + (40 + k)]? = some (r2 k, .inl (I, (8, .inl (fun _ => nI 0)))) := (ap_m (n := 4) rfl (by rw [hlen]; omega)).trans (hr2 k hk9)
      refine ⟨_, _, by rw [e7]; exact e8, kc_pos G ks_0 (k := 45 + k) (by omega), (a45 k).symm, ?_⟩
      have e9 : H[r2 k]? = some (vp_cell I (8, .inl (fun _ => nI 0))) := hP _ _ e8
      show H[kg_a G (45 + k)]? = some (vp_cell (kg_I G) (kc_n (45 + k), .inl (kc_d ks_0 (45 + k))))
      rw [a45 k, gI, e9, kc_nC k, vc_i (g := kc_d ks_0 (45 + k)) (fun j hj => by rw [kc_dC]; rfl)]
  have hLl : ∀ (k : Nat) (x : Nat × va_E), (kc_L G ks_0)[k]? = some x → k < 249 := fun k x hk => by
    have h1 := (List.getElem?_eq_some_iff.mp hk).1
    have h2 : (kc_L G ks_0).length = 249 := by unfold kc_L kc_R; simp
    omega
  have hPG : va_P (kg_D G) vwCl (kc_L G ks_0) H := fun k x hk => by
    obtain ⟨x1, y1, e1, e2, e3, e4⟩ := hent k (hLl k x hk)
    rw [hk] at e2
    cases e2
    rw [gD]
    exact e4
  have hAG : ∀ (k : Nat) (x : Nat × va_E), (kc_L G ks_0)[k]? = some x → A x.1 := fun k x hk => by
    obtain ⟨x1, y1, e1, e2, e3, e4⟩ := hent k (hLl k x hk)
    rw [hk] at e2
    cases e2
    rw [← e3]
    exact hD.2 _ _ e1
  have hDG : va_D (kg_A G) (kc_L G ks_0) := by
    refine ⟨fun i j x y hi hj hxy => ?_, fun k x hk => ?_⟩
    · obtain ⟨x1, y1, e1, e2, e3, _⟩ := hent i (hLl i x hi)
      obtain ⟨x2, y2, f1, f2, f3, _⟩ := hent j (hLl j y hj)
      rw [hi] at e2
      rw [hj] at f2
      cases e2
      cases f2
      exact ki_pi_inj (hLl i x hi) (hLl j y hj) (hD.1 _ _ _ _ e1 f1 (e3.trans (hxy.trans f3.symm)))
    · have h9 := hLl k x hk
      by_cases h3 : k < 3
      · obtain rfl | rfl | rfl : k = 0 ∨ k = 1 ∨ k = 2 := by omega
        · cases hk
          exact Or.inl rfl
        · cases hk
          exact Or.inr (Or.inl rfl)
        · cases hk
          exact Or.inr (Or.inr (Or.inl rfl))
      · obtain ⟨i, rfl⟩ : ∃ i, k = 3 + i := ⟨k - 3, by omega⟩
        rw [kc_pos G ks_0 (k := i) (by omega)] at hk
        cases hk
        exact Or.inr (Or.inr (Or.inr ⟨i, by omega, rfl⟩))
  have hAq : ∀ q, kg_A G q → q = h ∨ s.heap.size ≤ q := fun q hq => by
    have h1 : A q := by
      rcases hq with rfl | rfl | rfl | ⟨k, hk, rfl⟩
      · exact hAG 0 _ rfl
      · exact hAG 1 _ rfl
      · exact hAG 2 _ rfl
      · exact hAG _ _ (kc_pos G ks_0 hk)
    rw [hAe] at h1
    exact h1
  refine W.widen (k := 248) (n := 3804) (Nat.le_of_ble_eq_true rfl) (Nat.le_of_ble_eq_true rfl) ?_
  exact W.vret hx hb hr (fun t ht hW => ⟨⟨G, rfl, ⟨gD, gI, gJ, gh, hAq⟩, by rw [ht]; exact hPG, hDG⟩, hS.F ht⟩) hS.2.2 dX0_init_80 hlk
