/-! the law's loop, the walk from its entry (laid by program) -/
set_option maxHeartbeats 4000000 in
set_option maxRecDepth 100000 in
theorem law_loop {p : Program} {l : Launch} {e : Env} {s : State} {m : MethodId} {below : List Frame} {meth : Method} {c : Code} {b L : Nat} {xs : Nat → Int32} {G : kg_T} {E : mg_T} {o : Nat} {cJ : ClassId} (hB : lwB p l s m meth c b L xs G E o cJ) : ∀ (n i : Nat) (S : ks_T) (M : ms_T) (f : Nat → Int64) (ls : Array Slot) (H : Heap) (locs : List Loc) (cells slots : Nat), L < i + 6 + 6 * n → i ≤ 4000 → rl S M → cells + 3 * n ≤ 601024 → slots + 18 * n ≤ 7293034 → lv_has ls 7 [(4, .int (nI i)), (3, .ref o), (2, .ref (mg_h E)), (1, .ref (kg_h G)), (0, .ref b)] → lz G E o cJ s.heap S M f H locs → W p l e room_1 s m #[Value.ref b] below meth c H locs cells slots (lw_Z below #[Value.ref b] s) (F0 m 23 ls []) := by
  have hB0 := hB
  obtain ⟨hx, hb, hr, hml, hown, hts, hX, hbl, hlk, hl0, hL, hW0⟩ := hB
  intro n
  induction n with
  | zero =>
    intro i S M f ls H locs cells slots hm hi0 hR hcl hsl hl hZ
    refine lv_iload hx hb dL_law_23 (lv_at hl 0 rfl) ?_
    refine lv_aload_n hx hb dL_law_25 rfl (lv_at hl 4 rfl) ?_
    refine va_slen hx hb hX hbl (show ¬ s.heap.size ≤ b by omega) hZ.2.2.2.2.2 dL_law_26 ?_
    refine lv_bipush (v := (nI 6)) hx hb dL_law_27 (by decide +kernel) ?_
    have hsub : (nI L - nI 6).toInt = (L : Int) - 6 := pk_sub_toInt (by omega) (by omega)
    have hiI : (nI i).toInt = (i : Int) := nI_toInt (by omega)
    refine lv_isub hx hb dL_law_29 ?_
    refine lv_icmp_gt (tgt := 1094) hx hb dL_law_30 rfl (fun h3 => ?_) (fun h3 => ?_)
    · refine lv_iconst (v := 1) hx hb dL_law_1094 (by decide +kernel) ?_
      exact va_forget (fun q hq => hZ.2.2.2.2.2.2.2 q hq) (W.widen (k := 601024) (n := 7293034) (by omega) (by omega) (lw_ret hx hb hr hlk dL_law_1095))
    · have hi : i + 6 ≤ L := by
        by_cases q : i + 6 ≤ L
        · exact q
        · exfalso
          apply h3
          rw [Int32.lt_iff_toInt_lt]
          show (nI L - nI 6).toInt < (nI i).toInt
          omega
      omega
  | succ n ih =>
    intro i S M f ls H locs cells slots hm hi0 hR hcl hsl hl hZ
    refine lv_iload hx hb dL_law_23 (lv_at hl 0 rfl) ?_
    refine lv_aload_n hx hb dL_law_25 rfl (lv_at hl 4 rfl) ?_
    refine va_slen hx hb hX hbl (show ¬ s.heap.size ≤ b by omega) hZ.2.2.2.2.2 dL_law_26 ?_
    refine lv_bipush (v := (nI 6)) hx hb dL_law_27 (by decide +kernel) ?_
    have hsub : (nI L - nI 6).toInt = (L : Int) - 6 := pk_sub_toInt (by omega) (by omega)
    have hiI : (nI i).toInt = (i : Int) := nI_toInt (by omega)
    refine lv_isub hx hb dL_law_29 ?_
    refine lv_icmp_gt (tgt := 1094) hx hb dL_law_30 rfl (fun h3 => ?_) (fun h3 => ?_)
    · refine lv_iconst (v := 1) hx hb dL_law_1094 (by decide +kernel) ?_
      exact va_forget (fun q hq => hZ.2.2.2.2.2.2.2 q hq) (W.widen (k := 601024) (n := 7293034) (by omega) (by omega) (lw_ret hx hb hr hlk dL_law_1095))
    · have hi : i + 6 ≤ L := by
        by_cases q : i + 6 ≤ L
        · exact q
        · exfalso
          apply h3
          rw [Int32.lt_iff_toInt_lt]
          show (nI L - nI 6).toInt < (nI i).toInt
          omega
      have hgo : ∀ (S1 : ks_T) (M1 : ms_T) (f1 : Nat → Int64) (ls1 : Array Slot) (H1 : Heap) (locs1 : List Loc), rl S1 M1 → lv_has ls1 7 [(4, .int (nI i)), (3, .ref o), (2, .ref (mg_h E)), (1, .ref (kg_h G)), (0, .ref b)] → lz G E o cJ s.heap S1 M1 f1 H1 locs1 → W p l e room_1 s m #[Value.ref b] below meth c H1 locs1 (cells + 3) (slots + 18) (lw_Z below #[Value.ref b] s) (F0 m 1088 ls1 []) := by
        intro S1 M1 f1 ls H1 locs1 hR hl hZ
        refine lv_iinc (lv' := [(4, .int (nI (i + 6))), (3, .ref o), (2, .ref (mg_h E)), (1, .ref (kg_h G)), (0, .ref b)]) (v := nI (i + 6)) (k := 0) hx hb dL_law_1088 hl rfl (nI_add i 6) (by decide) rfl (fun ls hl => ?_)
        refine lv_goto (tgt := 23) hx hb dL_law_1091 rfl ?_
        exact ih (i + 6) S1 M1 f1 ls H1 locs1 (cells + 3) (slots + 18) (by omega) (by omega) hR (by omega) (by omega) hl hZ
      refine lv_aload_n hx hb dL_law_33 rfl (lv_at hl 4 rfl) ?_
      refine lv_iload hx hb dL_law_34 (lv_at hl 0 rfl) ?_
      refine lr_s (L := L) hx hb hX hbl hZ (by omega) hL dL_law_36 ?_
      refine lv_bipush (v := (nI 15)) hx hb dL_law_37 (by decide +kernel) ?_
      refine lv_iand hx hb dL_law_39 ?_
      obtain ⟨j, hj, ej⟩ := pk_andE (xs i) (m := nI 15) 4 (by decide)
      rw [ej]
      have hcase : j = 0 ∨ j = 1 ∨ j = 2 ∨ j = 3 ∨ j = 4 ∨ j = 5 ∨ j = 6 ∨ j = 7 ∨ j = 8 ∨ j = 9 ∨ j = 10 ∨ j = 11 ∨ j = 12 ∨ j = 13 ∨ j = 14 ∨ j = 15 := by omega
      rcases hcase with rfl | rfl | rfl | rfl | rfl | rfl | rfl | rfl | rfl | rfl | rfl | rfl | rfl | rfl | rfl | rfl
      · exact lv_tableIn (off := 76) (tgt := 116) hx hb dL_law_40 (by decide +kernel) (by decide +kernel) (by decide +kernel) rfl (law_make hB0 hi hR hl hZ (by omega) (by omega) hgo)
      · exact lv_tableIn (off := 132) (tgt := 172) hx hb dL_law_40 (by decide +kernel) (by decide +kernel) (by decide +kernel) rfl (law_share hB0 hi hR hl hZ (by omega) (by omega) hgo)
      · exact lv_tableIn (off := 212) (tgt := 252) hx hb dL_law_40 (by decide +kernel) (by decide +kernel) (by decide +kernel) rfl (law_drop hB0 hi hR hl hZ (by omega) (by omega) hgo)
      · exact lv_tableIn (off := 268) (tgt := 308) hx hb dL_law_40 (by decide +kernel) (by decide +kernel) (by decide +kernel) rfl (law_write hB0 hi hR hl hZ (by omega) (by omega) hgo)
      · exact lv_tableIn (off := 360) (tgt := 400) hx hb dL_law_40 (by decide +kernel) (by decide +kernel) (by decide +kernel) rfl (law_read hB0 hi hR hl hZ (by omega) (by omega) hgo)
      · exact lv_tableIn (off := 440) (tgt := 480) hx hb dL_law_40 (by decide +kernel) (by decide +kernel) (by decide +kernel) rfl (law_lay hB0 hi hR hl hZ (by omega) (by omega) hgo)
      · exact lv_tableIn (off := 544) (tgt := 584) hx hb dL_law_40 (by decide +kernel) (by decide +kernel) (by decide +kernel) rfl (law_size hB0 hi hR hl hZ (by omega) (by omega) hgo)
      · exact lv_tableIn (off := 612) (tgt := 652) hx hb dL_law_40 (by decide +kernel) (by decide +kernel) (by decide +kernel) rfl (law_blank hB0 hi hR hl hZ (by omega) (by omega) hgo)
      · exact lv_tableIn (off := 687) (tgt := 727) hx hb dL_law_40 (by decide +kernel) (by decide +kernel) (by decide +kernel) rfl (law_own hB0 hi hR hl hZ (by omega) (by omega) hgo)
      · exact lv_tableIn (off := 762) (tgt := 802) hx hb dL_law_40 (by decide +kernel) (by decide +kernel) (by decide +kernel) rfl (law_sweep hB0 hi hR hl hZ (by omega) (by omega) hgo)
      · exact lv_tableIn (off := 775) (tgt := 815) hx hb dL_law_40 (by decide +kernel) (by decide +kernel) (by decide +kernel) rfl (law_merge hB0 hi hR hl hZ (by omega) (by omega) hgo)
      · exact lv_tableIn (off := 788) (tgt := 828) hx hb dL_law_40 (by decide +kernel) (by decide +kernel) (by decide +kernel) rfl (law_common hB0 hi hR hl hZ (by omega) (by omega) hgo)
      · exact lv_tableIn (off := 887) (tgt := 927) hx hb dL_law_40 (by decide +kernel) (by decide +kernel) (by decide +kernel) rfl (law_holders hB0 hi hR hl hZ (by omega) (by omega) hgo)
      · exact lv_tableIn (off := 955) (tgt := 995) hx hb dL_law_40 (by decide +kernel) (by decide +kernel) (by decide +kernel) rfl (law_about hB0 hi hR hl hZ (by omega) (by omega) hgo)
      · exact lv_tableIn (off := 1023) (tgt := 1063) hx hb dL_law_40 (by decide +kernel) (by decide +kernel) (by decide +kernel) rfl (law_count hB0 hi hR hl hZ (by omega) (by omega) hgo)
      · exact lv_tableOut (tgt := 1088) hx hb dL_law_40 (by decide +kernel) rfl (W.widen (k := cells + 3) (n := slots + 18) (by omega) (by omega) (hgo S M f ls H locs hR hl hZ))
theorem rl_0 : rl ks_0 ms_0 := by
  have hF : ∀ r p, mv_F ms_0 r p = 0 := fun r p => mv_F2 (fun h => absurd rfl h)
  refine ⟨⟨fun r p _ _ => Nat.zero_lt_succ _, fun f h0 _ => ?_, rfl⟩, ⟨fun r _ => Nat.zero_le _, fun r _ => Nat.zero_le _, fun i _ => Nat.le_of_ble_eq_true rfl⟩, fun r _ => rfl, fun r p _ _ => (hF r p).symm, fun f d _ _ => rfl, fun d _ => nI_0⟩
  show 0 = cn_f (fun _ _ => 0) f
  by_cases w : 0 < cn_f (fun _ _ => 0) f
  · obtain ⟨r, p, _, _, e⟩ := cn_f_pos.mp w
    exact absurd e.symm h0
  · omega
theorem lw_in {w : Cond} {n : Nat} (h : tables_1[n]? = some w) : w ∈ lw_tbl := List.mem_append_right _ (List.mem_of_getElem? h)
theorem ar_1 {s : State} {args : Array Value} {t : FieldType} (h : (Cond.arrayClass t).before args s = true) (ho : ∀ C, t ≠ .object C) : ∃ cA, ArrOfT s cA t ∧ va_RA s cA t := by
  obtain ⟨cA, kA, comp, h1, h2, h3⟩ := Cond.arrayClass_spec h
  refine ⟨cA, fun n z => ⟨fun k h => (by cases h), kA, h2, comp, h3⟩, ?_⟩
  cases t with
  | object C => exact absurd rfl (ho C)
  | _ => exact h1
theorem ar_2 {s : State} {args : Array Value} (h : (Cond.arrayOver (.array .int)).before args s = true) : ∃ cA, ArrOfT s cA (.array .int) ∧ va_RA s cA (.array .int) := by
  obtain ⟨comp, cA, kA, h1, h2, h3, h4⟩ := Cond.arrayOver_specA h
  exact ⟨cA, fun n z => ⟨fun k h => (by cases h), kA, h2, comp, h3⟩, h4⟩
theorem va_Kl {D : va_G} {s : State} (h : ∀ (c : Nat) (q : vw_C), vwCl[c]? = some q → u_Kn s q.1 q.2.1 q.2.2 (D.1 c) (D.2 c)) (tys : List (ClassId × FieldType)) (ht : ∀ x ∈ tys, ArrOfT s x.1 x.2 ∧ va_RA s x.1 x.2) : va_K D vwCl tys s := ⟨h, fun k q hk => ht q (List.mem_of_getElem? hk)⟩
set_option maxHeartbeats 4000000 in
set_option maxRecDepth 100000 in
theorem whole_start {p : Program} {e : Env} {s : State} {m : MethodId} {below : List Frame} {meth : Method} {c : Code} (l : Launch) (hl0 : l.stackTraces = false) {b L : Nat} {xs : Nat → Int32} (hL : L ≤ 3072) (C0 : lw_At p s m meth c b L xs) : W p l e room_1 s m #[Value.ref b] below meth c s.heap [] 0 0 (lw_Z below #[Value.ref b] s) (entryFrame m ([Value.ref b] : List Value).toArray 7) := by
  obtain ⟨hx, hb, hr, hml, hown, htl, hX, hbl, hlk, hgv⟩ := C0
  have hT : ∀ w ∈ nw_T, w.before #[Value.ref b] s = true := fun w h => htl w (List.mem_filter.mp h).1
  have hts : ∀ w ∈ Cond.arrayClass .int :: nw_T, w.before #[Value.ref b] s = true := fun w h => (List.mem_cons.mp h).elim (fun e => by rw [e]; exact hT _ mw_47) (hT w)
  have hown : s.vm.findClass RL = some m.cls := hown
  have hfl := flat_of_before _ hgv
  obtain ⟨c0, i0, k0⟩ := u_known (C := RX0) (T := TX0) (N := 7) hT kx_in (hT _ mw_13)
  obtain ⟨c1, i1, k1⟩ := u_known (C := RX1) (T := TX1) (N := 6) hT mx_in (hT _ mw_365)
  obtain ⟨I, hI⟩ := ar_1 (hT _ mw_47) (fun C h => by cases h)
  obtain ⟨Z, hZb⟩ := ar_1 (hT _ mw_389) (fun C h => by cases h)
  obtain ⟨cJ, hJl⟩ := ar_1 (hT _ mw_510) (fun C h => by cases h)
  have hAOw : (Cond.arrayOver (.array .int)).before #[Value.ref b] s = true := htl _ (lw_in (n := 24) (by decide +kernel))
  obtain ⟨J, hJ⟩ := ar_2 hAOw
  have hAO : va_AOA .int s := va_AOA.of hAOw
  obtain ⟨D, hD9⟩ : ∃ D : va_G, D = (fun c => if c = 0 then c0 else c1, fun c => if c = 0 then i0 else i1) := ⟨_, rfl⟩
  have hcl : ∀ (c : Nat) (q : vw_C), vwCl[c]? = some q → u_Kn s q.1 q.2.1 q.2.2 (D.1 c) (D.2 c) := fun c q hc => by
    have h2 : c < 2 := (List.getElem?_eq_some_iff.mp hc).1
    rw [hD9]
    obtain rfl | rfl : c = 0 ∨ c = 1 := by omega
    · cases hc
      exact k0
    · cases hc
      exact k1
  have hK : va_K D vwCl [(I, .int), (J, .array .int)] s := va_Kl hcl _ (fun x hx => by
    rcases List.mem_cons.mp hx with rfl | hx
    · exact hI
    · rw [List.mem_singleton.mp hx]
      exact hJ)
  have hK1 : va_K D vwCl [(I, .int), (Z, .boolean)] s := va_Kl hcl _ (fun x hx => by
    rcases List.mem_cons.mp hx with rfl | hx
    · exact hI
    · rw [List.mem_singleton.mp hx]
      exact hZb)
  have hK2 : va_K D vwCl [(cJ, .long)] s := va_Kl hcl _ (fun x hx => by
    rw [List.mem_singleton.mp hx]
    exact hJl)
  have hXk : kc_X (fun q => s.heap.size ≤ q) s s.heap := ⟨vx_Zqof (htl _ (lw_in (n := 148) (by decide +kernel))) (hT _ mw_4) (hfl _ (by decide +kernel)) (fun a h1 h2 => by omega), vx_Zqof (htl _ (lw_in (n := 150) (by decide +kernel))) (hT _ mw_4) (hfl _ (by decide +kernel)) (fun a h1 h2 => by omega), fun w hw => by
    refine va_Nw.of (A := #[Value.ref b]) (kx_on w hw) ?_
    simp only [kx_B, List.mem_cons, List.not_mem_nil, or_false] at hw
    rcases hw with rfl | rfl | rfl | rfl | rfl | rfl | rfl
    · exact htl _ (lw_in (n := 218) (by decide +kernel))
    · exact htl _ (lw_in (n := 123) (by decide +kernel))
    · exact htl _ (lw_in (n := 191) (by decide +kernel))
    · exact htl _ (lw_in (n := 276) (by decide +kernel))
    · exact htl _ (lw_in (n := 124) (by decide +kernel))
    · exact htl _ (lw_in (n := 126) (by decide +kernel))
    · exact htl _ (lw_in (n := 128) (by decide +kernel))⟩
  have hN : lo_N s := ⟨va_Nc.of (hfl _ (by decide +kernel)), va_Nc.of (hfl _ (by decide +kernel)), va_Nc.of (hfl _ (by decide +kernel)), va_Nc.of (hfl _ (by decide +kernel))⟩
  obtain ⟨A, hAe⟩ : ∃ A : Nat → Prop, A = fun q => s.heap.size ≤ q := ⟨_, rfl⟩
  have hA : ∀ q : Nat, s.heap.size ≤ q → A q := fun q w => by rw [hAe]; exact w
  have hAr : ∀ q : Nat, A q → s.heap.size ≤ q := fun q w => by rw [hAe] at w; exact w
  have hS : va_S A s.heap s.heap [] := va_S.rf
  have hP : va_P D vwCl [] s.heap := fun k q h => by cases h
  have hD : va_D A [] := ⟨fun i j p q h => (by cases h), fun k q h => (by cases h)⟩
  have hl := lv_entry ([.ref b]) (n := 7) (Nat.le_of_ble_eq_true rfl)
  rw [lg_entry_eq]
  generalize (lg_sl ([.ref b]) ++ List.replicate (7 - (lg_sl ([.ref b])).length) Slot.unset).toArray = ls at hl ⊢
  have hl : lv_has ls 7 [(0, .ref b)] := hl
  refine va_new (ci := 0) (fs := [.null, .null, .null, .null, .null, .null, .null]) (C := RX0) (T := TX0) (N := 7) hx hb hT kx_in tyX0 tyX0_ok hown (hT _ mw_12) (hT _ mw_13) (hT _ mw_1) hK hP hD hS hA rfl (fun j hj => by
    obtain rfl | rfl | rfl | rfl | rfl | rfl | rfl : j = 0 ∨ j = 1 ∨ j = 2 ∨ j = 3 ∨ j = 4 ∨ j = 5 ∨ j = 6 := by omega
    all_goals rfl) (Nat.le_of_ble_eq_true rfl) (Nat.le_of_ble_eq_true rfl) dL_law_0 (fun h H hP hD hS => ?_)
  have hP : va_P D vwCl [(h, .inr (0, [.null, .null, .null, .null, .null, .null, .null]))] H := hP
  have hAh : s.heap.size ≤ h := hAr _ (hD.2 0 _ rfl)
  have hhl : h < H.size := (hP 0 _ rfl).lt
  have hS1 := hS.1
  refine lv_dup hx hb dL_law_3 rfl ?_
  refine va_callv (va_runI (As := []) (rest := [.ref h]) ⟨hx, hb, hml, hown, hts⟩ (k0_init l D I J h H.size) (cwI 0 hts gL_60 rfl rfl rfl (hT _ mw_1) (hT _ mw_14) (hT _ mw_15) rfl (by decide +kernel) ⟨Nat.le_of_ble_eq_true rfl, Nat.le_of_ble_eq_true rfl⟩) ⟨ki_blind, fun U hU hW => ⟨rfl, by rw [hU], by rw [hU]; exact hP, va_K.moved hW.alike hK, va_AOA.moved hW.alike hAO⟩⟩ rfl rfl hl.1 rfl (lv_room (Nat.le_of_ble_eq_true rfl)) dL_law_4 ⟨Nat.le_of_ble_eq_true rfl, Nat.le_of_ble_eq_true rfl⟩) hS (fun q _ h9 => hA q (Or.elim h9 (fun h8 => by rw [h8]; exact hAh) (fun h8 => Nat.le_trans hS1 h8))) (fun q h9 => hA q (Or.elim h9 (fun h8 => by rw [h8]; exact hAh) (fun h8 => Nat.le_trans hS1 h8))) (fun G t H1 locs ht hvm hq hB hz hk hS => ?_)
  obtain ⟨gD, gI, gJ, gh, gA⟩ := hq
  have hP : va_P D vwCl (kc_L G ks_0) H1 := by rw [← gD, ← ht]; exact hB.1
  have hDG := hB.2
  have gA2 : ∀ q, kg_A G q → s.heap.size ≤ q := fun q h9 => by
    have hS1 : s.heap.size ≤ H.size := hS1
    rcases gA q h9 with h8 | h8 <;> omega
  have hD : va_D A (kc_L G ks_0) := ⟨hDG.1, fun k q hk9 => hA _ (gA2 _ (hDG.2 k q hk9))⟩
  have hl : lv_has ls 7 [(0, .ref b)] := hl
  rw [← gh]
  refine lv_astore_n (lv' := [(1, .ref (kg_h G)), (0, .ref b)]) hx hb dL_law_7 rfl hl (by decide) rfl (fun ls hl => ?_)
  refine va_new (ci := 1) (fs := [.int (nI 0), .null, .null, .null, .null, .null]) (C := RX1) (T := TX1) (N := 6) hx hb hT mx_in tyX1 tyX1_ok hown (hT _ mw_364) (hT _ mw_365) (hT _ mw_3) hK hP hD hS hA rfl (fun j hj => by
    obtain rfl | rfl | rfl | rfl | rfl | rfl : j = 0 ∨ j = 1 ∨ j = 2 ∨ j = 3 ∨ j = 4 ∨ j = 5 := by omega
    · show Value.int 0 = .int (nI 0)
      rw [nI_0]
    all_goals rfl) (Nat.le_of_ble_eq_true rfl) (Nat.le_of_ble_eq_true rfl) dL_law_8 (fun h2 H hP hD hS => ?_)
  have hlast : (kc_L G ks_0 ++ [(h2, .inr (1, [.int (nI 0), .null, .null, .null, .null, .null]))] : va_W)[(kc_L G ks_0).length]? = some (h2, .inr (1, [.int (nI 0), .null, .null, .null, .null, .null])) := List.getElem?_concat_length
  have hfst : ∀ (k : Nat) (q : Nat × va_E), (kc_L G ks_0)[k]? = some q → (kc_L G ks_0 ++ [(h2, .inr (1, [.int (nI 0), .null, .null, .null, .null, .null]))] : va_W)[k]? = some q := fun k q h9 => by rw [List.getElem?_append_left (List.getElem?_eq_some_iff.mp h9).1]; exact h9
  have hPM : va_P D vwCl [(h2, .inr (1, [.int (nI 0), .null, .null, .null, .null, .null]))] H := fun k q hk9 => by
    have h1 : k < 1 := (List.getElem?_eq_some_iff.mp hk9).1
    rw [show k = 0 by omega] at hk9
    cases hk9
    exact hP _ _ hlast
  have hAh2 : s.heap.size ≤ h2 := hAr _ (hD.2 _ _ hlast)
  have hhl2 : h2 < H.size := (hP _ _ hlast).lt
  have hS2 : s.heap.size ≤ H.size := hS.1
  have gne : ∀ (k : Nat) (q : Nat × va_E), (kc_L G ks_0)[k]? = some q → q.1 ≠ h2 := fun k q h9 e => by
    have h1 := hD.1 k _ q _ (hfst k q h9) hlast e
    have h2 := (List.getElem?_eq_some_iff.mp h9).1
    omega
  have glt : ∀ (k : Nat) (q : Nat × va_E), (kc_L G ks_0)[k]? = some q → q.1 < H.size := fun k q h9 => (hP k q (hfst k q h9)).lt
  refine lv_dup hx hb dL_law_11 rfl ?_
  refine va_callv (va_runI (As := []) (rest := [.ref h2]) ⟨hx, hb, hml, hown, hts⟩ (k1_init l D I Z h2 H.size) (cwI 0 hts gL_63 rfl rfl rfl (hT _ mw_3) (hT _ mw_366) (hT _ mw_367) rfl (by decide +kernel) ⟨Nat.le_of_ble_eq_true rfl, Nat.le_of_ble_eq_true rfl⟩) ⟨mi_blind, fun U hU hW => ⟨rfl, by rw [hU], by rw [hU]; exact hPM, va_K.moved hW.alike hK1, hhl2⟩⟩ rfl rfl hl.1 rfl (lv_room (Nat.le_of_ble_eq_true rfl)) dL_law_12 ⟨Nat.le_of_ble_eq_true rfl, Nat.le_of_ble_eq_true rfl⟩) hS (fun q _ h9 => hA q (Or.elim h9 (fun h8 => by rw [h8]; exact hAh2) (fun h8 => Nat.le_trans hS2 h8))) (fun q h9 => hA q (Or.elim h9 (fun h8 => by rw [h8]; exact hAh2) (fun h8 => Nat.le_trans hS2 h8))) (fun E t H1 locs ht hvm hq hB hz hk hS => ?_)
  obtain ⟨eD, eI, eZ, eh, eA⟩ := hq
  have hPG : va_P (kg_D G) vwCl (kc_L G ks_0) H1 := by
    rw [gD]
    exact fun k q h9 => (hP k q (hfst k q h9)).kept (hk q.1 (glt k q h9) (fun w => w.elim (gne k q h9) (fun w => by have := glt k q h9; omega)))
  have hPE : va_P (mg_D E) vwCl (mc_L E ms_0) H1 := by rw [← ht]; exact hB.1
  have hDE := hB.2
  have eA2 : ∀ q, mg_A E q → q = h2 ∨ H.size ≤ q := fun q h9 => by
    rcases h9 with h9 | ⟨k, hk9, h9⟩
    · exact Or.inl (h9.trans eh)
    · exact Or.inr (by rw [h9]; exact eA k hk9)
  have gpos : ∀ q, kg_A G q → ∃ (k : Nat) (x : Nat × va_E), (kc_L G ks_0)[k]? = some x ∧ x.1 = q := fun q h9 => by
    rcases h9 with h9 | h9 | h9 | ⟨k, hk9, h9⟩
    · exact ⟨0, _, rfl, h9.symm⟩
    · exact ⟨1, _, rfl, h9.symm⟩
    · exact ⟨2, _, rfl, h9.symm⟩
    · exact ⟨_, _, kc_pos G ks_0 hk9, h9.symm⟩
  rw [← eh]
  refine lv_astore_n (lv' := [(2, .ref (mg_h E)), (1, .ref (kg_h G)), (0, .ref b)]) hx hb dL_law_15 rfl hl (by decide) rfl (fun ls hl => ?_)
  refine lv_iconst (v := (nI 1)) hx hb dL_law_16 (by decide +kernel) ?_
  refine va_newaK (atype := .long) hx hb (hT _ mw_510) rfl dL_law_17 rfl (by decide +kernel) (N := 1) (by decide +kernel) (by decide) (Nat.le_of_ble_eq_true rfl) (Nat.le_of_ble_eq_true rfl) rfl (fun H2 cA e1 z1 o1 hAr2 hNm => ?_)
  have ecJ : cA = cJ := Option.some.inj (hNm.symm.trans hJl.2)
  rw [ecJ] at e1
  refine W.eq (g2 := F0 m 19 ls [.ref H1.size]) rfl ?_
  have hlG : ∀ (k : Nat) (q : Nat × va_E), (kc_L G ks_0)[k]? = some q → q.1 < H1.size := fun k q h9 => (hPG k q h9).lt
  have hlE : ∀ (k : Nat) (q : Nat × va_E), (mc_L E ms_0)[k]? = some q → q.1 < H1.size := fun k q h9 => (hPE k q h9).lt
  have epos : ∀ q, mg_A E q → q < H1.size := fun q h9 => by
    rcases h9 with h9 | ⟨k, hk9, h9⟩
    · rw [h9]
      exact hlE 0 _ rfl
    · rw [h9]
      obtain rfl | rfl | rfl | rfl | rfl : k = 0 ∨ k = 1 ∨ k = 2 ∨ k = 3 ∨ k = 4 := by omega
      · exact hlE 1 _ rfl
      · exact hlE 2 _ rfl
      · exact hlE 3 _ rfl
      · exact hlE 4 _ rfl
      · exact hlE 5 _ rfl
  have hS3 : s.heap.size ≤ H1.size := hS.1
  have hg : lzg G E H1.size s.heap := by
    refine ⟨fun q h9 => ?_, fun q h9 => ?_, hS3⟩
    · obtain ⟨k, x, hx9, rfl⟩ := gpos q h9
      refine ⟨fun w => ?_, ?_, gA2 _ h9⟩
      · rcases eA2 _ w with w | w
        · exact gne k x hx9 w
        · have := glt k x hx9
          omega
      · have := hlG k x hx9
        omega
    · have h8 := epos q h9
      refine ⟨by omega, ?_⟩
      rcases eA2 q h9 with w | w <;> omega
  have hZ : lz G E H1.size cJ s.heap ks_0 ms_0 (fun _ => 0) H2 locs := by
    refine ⟨hPG.kept (fun k q h9 => o1 q.1 (hlG k q h9)), hDG, hPE.kept (fun k q h9 => o1 q.1 (hlE k q h9)), hDE, fun k q h9 => ?_, ⟨by omega, fun q h1 h2 => (o1 q (by omega)).trans (hS.2.1 q h1 (fun w => h2 (hAr q w))), fun z hz => hAr _ (hS.2.2 z hz)⟩⟩
    have h1 : k < 1 := (List.getElem?_eq_some_iff.mp h9).1
    rw [show k = 0 by omega] at h9
    cases h9
    exact e1
  have hB : lwB p l s m meth c b L xs G E H1.size cJ := ⟨hx, hb, hr, hml, hown, hts, hX, hbl, hlk, hl0, hL, by show va_K (kg_D G) vwCl [(kg_I G, .int), (kg_J G, .array .int)] s; rw [gD, gI, gJ]; exact hK, by show va_K (mg_D E) vwCl [(mg_I E, .int), (mg_Z E, .boolean)] s; rw [eD, eI, eZ]; exact hK1, by rw [gD]; exact hK2, hXk, hN, hg⟩
  refine lv_astore_n (lv' := [(3, .ref H1.size), (2, .ref (mg_h E)), (1, .ref (kg_h G)), (0, .ref b)]) hx hb dL_law_19 rfl hl (by decide) rfl (fun ls hl => ?_)
  refine lv_iconst (v := (nI 0)) hx hb dL_law_20 (by decide +kernel) ?_
  refine lv_istore (lv' := [(4, .int (nI 0)), (3, .ref H1.size), (2, .ref (mg_h E)), (1, .ref (kg_h G)), (0, .ref b)]) hx hb dL_law_21 hl (by decide) rfl (fun ls hl => ?_)
  refine W.widen (k := 256) (n := 6810) (Nat.le_of_ble_eq_true rfl) (Nat.le_of_ble_eq_true rfl) ?_
  exact law_loop hB 512 0 ks_0 ms_0 (fun _ => 0) _ H2 locs 256 6810 (by omega) (by omega) rl_0 (by omega) (by omega) hl hZ
