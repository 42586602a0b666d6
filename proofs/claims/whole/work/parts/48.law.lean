/-! the law's cases (laid by program) -/
set_option maxHeartbeats 4000000 in
set_option maxRecDepth 100000 in
theorem law_make {p : Program} {l : Launch} {e : Env} {s : State} {m : MethodId} {below : List Frame} {meth : Method} {c : Code} {b L : Nat} {xs : Nat → Int32} {G : kg_T} {E : mg_T} {o : Nat} {cJ : ClassId} (hB : lwB p l s m meth c b L xs G E o cJ) {i : Nat} (hi : i + 6 ≤ L) {S : ks_T} {M : ms_T} {f : Nat → Int64} {ls : Array Slot} {H : Heap} {locs : List Loc} {cells slots : Nat} (hR : rl S M) (hl : lv_has ls 7 [(4, .int (nI i)), (3, .ref o), (2, .ref (mg_h E)), (1, .ref (kg_h G)), (0, .ref b)]) (hZ : lz G E o cJ s.heap S M f H locs) (hcl : cells + 3 ≤ 601024) (hsl : slots + 18 ≤ 7293034) (hgo : ∀ (S1 : ks_T) (M1 : ms_T) (f1 : Nat → Int64) (ls1 : Array Slot) (H1 : Heap) (locs1 : List Loc), rl S1 M1 → lv_has ls1 7 [(4, .int (nI i)), (3, .ref o), (2, .ref (mg_h E)), (1, .ref (kg_h G)), (0, .ref b)] → lz G E o cJ s.heap S1 M1 f1 H1 locs1 → W p l e room_1 s m #[Value.ref b] below meth c H1 locs1 (cells + 3) (slots + 18) (lw_Z below #[Value.ref b] s) (F0 m 1088 ls1 [])) : W p l e room_1 s m #[Value.ref b] below meth c H locs cells slots (lw_Z below #[Value.ref b] s) (F0 m 116 ls []) := by
  obtain ⟨hx, hb, hr, hml, hown, hts, hX, hbl, hlk, hl0, hL, hW0⟩ := hB
  have hc9 : cells + 3 ≤ room_1.cells := hcl
  have hs9 : slots + 18 ≤ room_1.slots := hsl
  have hc0 : cells ≤ room_1.cells := by omega
  have hs0 : slots ≤ room_1.slots := by omega
  refine lv_aload_n hx hb dL_law_116 rfl (lv_at hl 3 rfl) ?_
  refine lv_aload_n hx hb dL_law_117 rfl (lv_at hl 4 rfl) ?_
  refine lv_iload hx hb dL_law_118 (lv_at hl 0 rfl) ?_
  refine lv_iconst (v := (nI 1)) hx hb dL_law_120 (by decide +kernel) ?_
  refine wn_add hx hb dL_law_121 ?_
  refine lr_s (L := L) hx hb hX hbl hZ (by omega) hL dL_law_122 ?_
  refine lv_aload_n hx hb dL_law_123 rfl (lv_at hl 1 rfl) ?_
  refine lr_w (hh := [(0, 9, 12, 13), (0, 9, 15, 15)]) (post := (fun (v : Int32) (u : ks_T × (Nat → Int64)) => (v = nI 0 ∧ ∃ b, qo_make S (xs (i + 1)) b u.1 ∧ u.2 0 = b.toInt64) ∨ (u.1 = S ∧ ∃ E, qx_make S (xs (i + 1)) E ∧ ((E = kx_iae ∧ v = nI 1) ∨ (E = kx_ise ∧ v = nI 2))))) (As := [.ref (kg_h G), .int (xs (i + 1)), .ref o]) (rest := []) ⟨hx, hb, hml, hown, hts⟩ (kL_make l hl0 G cJ o S f (xs (i + 1)) hR.hP hR.V) (vx_cwSW 3 hts gL_64 rfl rfl rfl hL_make.2 ⟨Nat.le_of_ble_eq_true rfl, Nat.le_of_ble_eq_true rfl⟩) hW0 hZ rfl hl.1 rfl (Nat.le_of_ble_eq_true rfl) dL_law_124 ⟨by omega, by omega⟩ (fun v u H locs hp hZ => ?_)
  refine lv_istore (lv' := [(5, .int v), (4, .int (nI i)), (3, .ref o), (2, .ref (mg_h E)), (1, .ref (kg_h G)), (0, .ref b)]) hx hb dL_law_127 hl (by decide) rfl (fun ls hl => ?_)
  refine lv_aload_n hx hb dL_law_129 rfl (lv_at hl 3 rfl) ?_
  refine lv_aload_n hx hb dL_law_130 rfl (lv_at hl 5 rfl) ?_
  refine lv_iload hx hb dL_law_131 (lv_at hl 1 rfl) ?_
  refine lv_iconst (v := (nI 1)) hx hb dL_law_133 (by decide +kernel) ?_
  refine wn_add hx hb dL_law_134 ?_
  refine lr_s (L := L) hx hb hX hbl hZ (by omega) hL dL_law_135 ?_
  refine lr_m (post := (qm_make M (xs (i + 1)))) (As := [.int (xs (i + 1))]) (rest := []) ⟨hx, hb, hml, hown, hts⟩ (k1_make l E M (xs (i + 1)) hR.O) (cwV 1 hts gL_69 rfl rfl rfl hX1_make ⟨Nat.le_of_ble_eq_true rfl, Nat.le_of_ble_eq_true rfl⟩) hW0 hZ rfl hl.1 rfl (Nat.le_of_ble_eq_true rfl) dL_law_136 ⟨by omega, by omega⟩ (fun bb M1 H locs hm hZ => ?_)
  refine lv_istore (lv' := [(6, .int bb), (5, .int v), (4, .int (nI i)), (3, .ref o), (2, .ref (mg_h E)), (1, .ref (kg_h G)), (0, .ref b)]) hx hb dL_law_139 hl (by decide) rfl (fun ls hl => ?_)
  have hq : lcQ lc_i u v bb M1 := by
    rcases hp with ⟨h1, d, h2, h3⟩ | ⟨hu, E9, hx9, hv⟩
    · obtain ⟨e1, rfl, e3⟩ := rl_make_o hR h2 hm
      exact ⟨by rw [e1]; exact h1, e3, Or.inl ⟨h1, h3⟩⟩
    · exact lc_2 (by decide) hu hv (rl_make_x hR hx9 hm)
  obtain ⟨hv1, hR1, hq⟩ := hq
  refine lv_aload_n hx hb dL_law_141 rfl (lv_at hl 4 rfl) ?_
  refine lr_m (post := (fun (v : Int32) (S' : ms_T) => v = nI (ms_t M1) ∧ S' = M1)) (As := []) (rest := []) ⟨hx, hb, hml, hown, hts⟩ (k1_thrown l E M1) (cwV 0 hts gL_70 rfl rfl rfl hX1_thrown ⟨Nat.le_of_ble_eq_true rfl, Nat.le_of_ble_eq_true rfl⟩) hW0 hZ rfl hl.1 rfl (Nat.le_of_ble_eq_true rfl) dL_law_142 ⟨by omega, by omega⟩ (fun th M2 H locs ht hZ => ?_)
  obtain ⟨ht1, ht2⟩ := ht
  rw [ht2] at hZ
  have ht3 : th = v := ht1.trans hv1.symm
  refine lv_iload hx hb dL_law_145 (lv_at hl 1 rfl) ?_
  refine lv_icmp_eq (tgt := 152) hx hb dL_law_147 rfl (fun _ => ?_) (fun h9 => absurd ht3 h9)
  refine lv_iload hx hb dL_law_152 (lv_at hl 1 rfl) ?_
  rcases hq with ⟨hv0, ho9⟩ | ⟨k9, hk9, hv0⟩
  · have hz : v = 0 := by rw [hv0]; exact nI_0
    refine lv_if_ne (tgt := 169) hx hb dL_law_154 rfl (fun h9 => absurd hz h9) (fun _ => ?_)
    refine lv_aload_n hx hb dL_law_157 rfl (lv_at hl 3 rfl) ?_
    refine lv_iconst (v := (nI 0)) hx hb dL_law_158 (by decide +kernel) ?_
    refine va_lald hx hb hW0.2.2.1 hZ.2.2.2.2.1 0 0 rfl rfl (vp_in_nI (by omega) (by omega)) dL_law_159 ?_
    rw [nI_clamp (by omega), ho9]
    refine lv_iload hx hb dL_law_160 (lv_at hl 0 rfl) ?_
    refine lv_i2l (v := lc_i bb) hx hb dL_law_162 rfl ?_
    refine W.lcmp hx hb dL_law_163 ?_
    have e8 : lg_cmp (lc_i bb) (lc_i bb) = 0 := lg_cmp0 _
    refine lv_if_eq (tgt := 169) hx hb dL_law_164 rfl (fun _ => ?_) (fun h9 => absurd e8 h9)
    refine lv_goto (tgt := 1088) hx hb dL_law_169 rfl ?_
    have hl := lv_sub (l' := [(4, .int (nI i)), (3, .ref o), (2, .ref (mg_h E)), (1, .ref (kg_h G)), (0, .ref b)]) hl [2, 3, 4, 5, 6] rfl
    refine W.widen (k := cells + 3) (n := slots + 18) (by omega) (by omega) ?_
    exact hgo u.1 M1 u.2 _ _ _ hR1 hl hZ
  · have hnz : ¬ v = 0 := by
      rw [hv0]
      rcases hk9 with rfl | rfl <;> decide
    refine lv_if_ne (tgt := 169) hx hb dL_law_154 rfl (fun _ => ?_) (fun h9 => absurd h9 hnz)
    refine lv_goto (tgt := 1088) hx hb dL_law_169 rfl ?_
    have hl := lv_sub (l' := [(4, .int (nI i)), (3, .ref o), (2, .ref (mg_h E)), (1, .ref (kg_h G)), (0, .ref b)]) hl [2, 3, 4, 5, 6] rfl
    refine W.widen (k := cells + 3) (n := slots + 18) (by omega) (by omega) ?_
    exact hgo u.1 M1 u.2 _ _ _ hR1 hl hZ
set_option maxHeartbeats 4000000 in
set_option maxRecDepth 100000 in
theorem law_share {p : Program} {l : Launch} {e : Env} {s : State} {m : MethodId} {below : List Frame} {meth : Method} {c : Code} {b L : Nat} {xs : Nat → Int32} {G : kg_T} {E : mg_T} {o : Nat} {cJ : ClassId} (hB : lwB p l s m meth c b L xs G E o cJ) {i : Nat} (hi : i + 6 ≤ L) {S : ks_T} {M : ms_T} {f : Nat → Int64} {ls : Array Slot} {H : Heap} {locs : List Loc} {cells slots : Nat} (hR : rl S M) (hl : lv_has ls 7 [(4, .int (nI i)), (3, .ref o), (2, .ref (mg_h E)), (1, .ref (kg_h G)), (0, .ref b)]) (hZ : lz G E o cJ s.heap S M f H locs) (hcl : cells + 3 ≤ 601024) (hsl : slots + 18 ≤ 7293034) (hgo : ∀ (S1 : ks_T) (M1 : ms_T) (f1 : Nat → Int64) (ls1 : Array Slot) (H1 : Heap) (locs1 : List Loc), rl S1 M1 → lv_has ls1 7 [(4, .int (nI i)), (3, .ref o), (2, .ref (mg_h E)), (1, .ref (kg_h G)), (0, .ref b)] → lz G E o cJ s.heap S1 M1 f1 H1 locs1 → W p l e room_1 s m #[Value.ref b] below meth c H1 locs1 (cells + 3) (slots + 18) (lw_Z below #[Value.ref b] s) (F0 m 1088 ls1 [])) : W p l e room_1 s m #[Value.ref b] below meth c H locs cells slots (lw_Z below #[Value.ref b] s) (F0 m 172 ls []) := by
  obtain ⟨hx, hb, hr, hml, hown, hts, hX, hbl, hlk, hl0, hL, hW0⟩ := hB
  have hc9 : cells + 3 ≤ room_1.cells := hcl
  have hs9 : slots + 18 ≤ room_1.slots := hsl
  have hc0 : cells ≤ room_1.cells := by omega
  have hs0 : slots ≤ room_1.slots := by omega
  refine lv_aload_n hx hb dL_law_172 rfl (lv_at hl 3 rfl) ?_
  refine lv_aload_n hx hb dL_law_173 rfl (lv_at hl 4 rfl) ?_
  refine lv_iload hx hb dL_law_174 (lv_at hl 0 rfl) ?_
  refine lv_iconst (v := (nI 1)) hx hb dL_law_176 (by decide +kernel) ?_
  refine wn_add hx hb dL_law_177 ?_
  refine lr_s (L := L) hx hb hX hbl hZ (by omega) hL dL_law_178 ?_
  refine lv_aload_n hx hb dL_law_179 rfl (lv_at hl 4 rfl) ?_
  refine lv_iload hx hb dL_law_180 (lv_at hl 0 rfl) ?_
  refine lv_iconst (v := (nI 2)) hx hb dL_law_182 (by decide +kernel) ?_
  refine wn_add hx hb dL_law_183 ?_
  refine lr_s (L := L) hx hb hX hbl hZ (by omega) hL dL_law_184 ?_
  refine lv_aload_n hx hb dL_law_185 rfl (lv_at hl 4 rfl) ?_
  refine lv_iload hx hb dL_law_186 (lv_at hl 0 rfl) ?_
  refine lv_iconst (v := (nI 3)) hx hb dL_law_188 (by decide +kernel) ?_
  refine wn_add hx hb dL_law_189 ?_
  refine lr_s (L := L) hx hb hX hbl hZ (by omega) hL dL_law_190 ?_
  refine lv_aload_n hx hb dL_law_191 rfl (lv_at hl 1 rfl) ?_
  refine lr_w (hh := [(0, 12, 15, 21), (0, 12, 19, 15)]) (post := (fun (v : Int32) (u : ks_T × (Nat → Int64)) => (v = nI 0 ∧ ∃ b, qo_share S (xs (i + 1)) (xs (i + 2)) (xs (i + 3)) b u.1 ∧ u.2 0 = b.toInt64) ∨ (u.1 = S ∧ ∃ E, qx_share S (xs (i + 1)) (xs (i + 2)) (xs (i + 3)) E ∧ ((E = kx_nse ∧ v = nI 1) ∨ (E = kx_ise ∧ v = nI 2))))) (As := [.ref (kg_h G), .int (xs (i + 1)), .int (xs (i + 2)), .int (xs (i + 3)), .ref o]) (rest := []) ⟨hx, hb, hml, hown, hts⟩ (kL_share l hl0 G cJ o S f (xs (i + 1)) (xs (i + 2)) (xs (i + 3)) hR.hP hR.V) (vx_cwSW 5 hts gL_74 rfl rfl rfl hL_share.2 ⟨Nat.le_of_ble_eq_true rfl, Nat.le_of_ble_eq_true rfl⟩) hW0 hZ rfl hl.1 rfl (Nat.le_of_ble_eq_true rfl) dL_law_192 ⟨by omega, by omega⟩ (fun v u H locs hp hZ => ?_)
  refine lv_istore (lv' := [(5, .int v), (4, .int (nI i)), (3, .ref o), (2, .ref (mg_h E)), (1, .ref (kg_h G)), (0, .ref b)]) hx hb dL_law_195 hl (by decide) rfl (fun ls hl => ?_)
  refine lv_aload_n hx hb dL_law_197 rfl (lv_at hl 3 rfl) ?_
  refine lv_aload_n hx hb dL_law_198 rfl (lv_at hl 5 rfl) ?_
  refine lv_iload hx hb dL_law_199 (lv_at hl 1 rfl) ?_
  refine lv_iconst (v := (nI 1)) hx hb dL_law_201 (by decide +kernel) ?_
  refine wn_add hx hb dL_law_202 ?_
  refine lr_s (L := L) hx hb hX hbl hZ (by omega) hL dL_law_203 ?_
  refine lv_aload_n hx hb dL_law_204 rfl (lv_at hl 5 rfl) ?_
  refine lv_iload hx hb dL_law_205 (lv_at hl 1 rfl) ?_
  refine lv_iconst (v := (nI 2)) hx hb dL_law_207 (by decide +kernel) ?_
  refine wn_add hx hb dL_law_208 ?_
  refine lr_s (L := L) hx hb hX hbl hZ (by omega) hL dL_law_209 ?_
  refine lv_aload_n hx hb dL_law_210 rfl (lv_at hl 5 rfl) ?_
  refine lv_iload hx hb dL_law_211 (lv_at hl 1 rfl) ?_
  refine lv_iconst (v := (nI 3)) hx hb dL_law_213 (by decide +kernel) ?_
  refine wn_add hx hb dL_law_214 ?_
  refine lr_s (L := L) hx hb hX hbl hZ (by omega) hL dL_law_215 ?_
  refine lr_m (post := (qm_share M (xs (i + 1)) (xs (i + 2)) (xs (i + 3)))) (As := [.int (xs (i + 1)), .int (xs (i + 2)), .int (xs (i + 3))]) (rest := []) ⟨hx, hb, hml, hown, hts⟩ (k1_share l E M (xs (i + 1)) (xs (i + 2)) (xs (i + 3)) hR.O) (cwV 3 hts gL_77 rfl rfl rfl hX1_share ⟨Nat.le_of_ble_eq_true rfl, Nat.le_of_ble_eq_true rfl⟩) hW0 hZ rfl hl.1 rfl (Nat.le_of_ble_eq_true rfl) dL_law_216 ⟨by omega, by omega⟩ (fun bb M1 H locs hm hZ => ?_)
  refine lv_istore (lv' := [(6, .int bb), (5, .int v), (4, .int (nI i)), (3, .ref o), (2, .ref (mg_h E)), (1, .ref (kg_h G)), (0, .ref b)]) hx hb dL_law_219 hl (by decide) rfl (fun ls hl => ?_)
  have hq : lcQ lc_i u v bb M1 := by
    rcases hp with ⟨h1, d, h2, h3⟩ | ⟨hu, E9, hx9, hv⟩
    · obtain ⟨e1, rfl, e3⟩ := rl_share_o hR h2 hm
      exact ⟨by rw [e1]; exact h1, e3, Or.inl ⟨h1, h3⟩⟩
    · exact lc_2 (by decide) hu hv (rl_share_x hR hx9 hm)
  obtain ⟨hv1, hR1, hq⟩ := hq
  refine lv_aload_n hx hb dL_law_221 rfl (lv_at hl 4 rfl) ?_
  refine lr_m (post := (fun (v : Int32) (S' : ms_T) => v = nI (ms_t M1) ∧ S' = M1)) (As := []) (rest := []) ⟨hx, hb, hml, hown, hts⟩ (k1_thrown l E M1) (cwV 0 hts gL_70 rfl rfl rfl hX1_thrown ⟨Nat.le_of_ble_eq_true rfl, Nat.le_of_ble_eq_true rfl⟩) hW0 hZ rfl hl.1 rfl (Nat.le_of_ble_eq_true rfl) dL_law_222 ⟨by omega, by omega⟩ (fun th M2 H locs ht hZ => ?_)
  obtain ⟨ht1, ht2⟩ := ht
  rw [ht2] at hZ
  have ht3 : th = v := ht1.trans hv1.symm
  refine lv_iload hx hb dL_law_225 (lv_at hl 1 rfl) ?_
  refine lv_icmp_eq (tgt := 232) hx hb dL_law_227 rfl (fun _ => ?_) (fun h9 => absurd ht3 h9)
  refine lv_iload hx hb dL_law_232 (lv_at hl 1 rfl) ?_
  rcases hq with ⟨hv0, ho9⟩ | ⟨k9, hk9, hv0⟩
  · have hz : v = 0 := by rw [hv0]; exact nI_0
    refine lv_if_ne (tgt := 249) hx hb dL_law_234 rfl (fun h9 => absurd hz h9) (fun _ => ?_)
    refine lv_aload_n hx hb dL_law_237 rfl (lv_at hl 3 rfl) ?_
    refine lv_iconst (v := (nI 0)) hx hb dL_law_238 (by decide +kernel) ?_
    refine va_lald hx hb hW0.2.2.1 hZ.2.2.2.2.1 0 0 rfl rfl (vp_in_nI (by omega) (by omega)) dL_law_239 ?_
    rw [nI_clamp (by omega), ho9]
    refine lv_iload hx hb dL_law_240 (lv_at hl 0 rfl) ?_
    refine lv_i2l (v := lc_i bb) hx hb dL_law_242 rfl ?_
    refine W.lcmp hx hb dL_law_243 ?_
    have e8 : lg_cmp (lc_i bb) (lc_i bb) = 0 := lg_cmp0 _
    refine lv_if_eq (tgt := 249) hx hb dL_law_244 rfl (fun _ => ?_) (fun h9 => absurd e8 h9)
    refine lv_goto (tgt := 1088) hx hb dL_law_249 rfl ?_
    have hl := lv_sub (l' := [(4, .int (nI i)), (3, .ref o), (2, .ref (mg_h E)), (1, .ref (kg_h G)), (0, .ref b)]) hl [2, 3, 4, 5, 6] rfl
    refine W.widen (k := cells + 3) (n := slots + 18) (by omega) (by omega) ?_
    exact hgo u.1 M1 u.2 _ _ _ hR1 hl hZ
  · have hnz : ¬ v = 0 := by
      rw [hv0]
      rcases hk9 with rfl | rfl <;> decide
    refine lv_if_ne (tgt := 249) hx hb dL_law_234 rfl (fun _ => ?_) (fun h9 => absurd h9 hnz)
    refine lv_goto (tgt := 1088) hx hb dL_law_249 rfl ?_
    have hl := lv_sub (l' := [(4, .int (nI i)), (3, .ref o), (2, .ref (mg_h E)), (1, .ref (kg_h G)), (0, .ref b)]) hl [2, 3, 4, 5, 6] rfl
    refine W.widen (k := cells + 3) (n := slots + 18) (by omega) (by omega) ?_
    exact hgo u.1 M1 u.2 _ _ _ hR1 hl hZ
set_option maxHeartbeats 4000000 in
set_option maxRecDepth 100000 in
theorem law_drop {p : Program} {l : Launch} {e : Env} {s : State} {m : MethodId} {below : List Frame} {meth : Method} {c : Code} {b L : Nat} {xs : Nat → Int32} {G : kg_T} {E : mg_T} {o : Nat} {cJ : ClassId} (hB : lwB p l s m meth c b L xs G E o cJ) {i : Nat} (hi : i + 6 ≤ L) {S : ks_T} {M : ms_T} {f : Nat → Int64} {ls : Array Slot} {H : Heap} {locs : List Loc} {cells slots : Nat} (hR : rl S M) (hl : lv_has ls 7 [(4, .int (nI i)), (3, .ref o), (2, .ref (mg_h E)), (1, .ref (kg_h G)), (0, .ref b)]) (hZ : lz G E o cJ s.heap S M f H locs) (hcl : cells + 3 ≤ 601024) (hsl : slots + 18 ≤ 7293034) (hgo : ∀ (S1 : ks_T) (M1 : ms_T) (f1 : Nat → Int64) (ls1 : Array Slot) (H1 : Heap) (locs1 : List Loc), rl S1 M1 → lv_has ls1 7 [(4, .int (nI i)), (3, .ref o), (2, .ref (mg_h E)), (1, .ref (kg_h G)), (0, .ref b)] → lz G E o cJ s.heap S1 M1 f1 H1 locs1 → W p l e room_1 s m #[Value.ref b] below meth c H1 locs1 (cells + 3) (slots + 18) (lw_Z below #[Value.ref b] s) (F0 m 1088 ls1 [])) : W p l e room_1 s m #[Value.ref b] below meth c H locs cells slots (lw_Z below #[Value.ref b] s) (F0 m 252 ls []) := by
  obtain ⟨hx, hb, hr, hml, hown, hts, hX, hbl, hlk, hl0, hL, hW0⟩ := hB
  have hc9 : cells + 3 ≤ room_1.cells := hcl
  have hs9 : slots + 18 ≤ room_1.slots := hsl
  have hc0 : cells ≤ room_1.cells := by omega
  have hs0 : slots ≤ room_1.slots := by omega
  refine lv_aload_n hx hb dL_law_252 rfl (lv_at hl 3 rfl) ?_
  refine lv_aload_n hx hb dL_law_253 rfl (lv_at hl 4 rfl) ?_
  refine lv_iload hx hb dL_law_254 (lv_at hl 0 rfl) ?_
  refine lv_iconst (v := (nI 1)) hx hb dL_law_256 (by decide +kernel) ?_
  refine wn_add hx hb dL_law_257 ?_
  refine lr_s (L := L) hx hb hX hbl hZ (by omega) hL dL_law_258 ?_
  refine lv_aload_n hx hb dL_law_259 rfl (lv_at hl 1 rfl) ?_
  refine lr_w (hh := [(0, 9, 12, 21)]) (post := (fun (v : Int32) (u : ks_T × (Nat → Int64)) => (v = nI 0 ∧ ∃ b, qo_drop S (xs (i + 1)) b u.1 ∧ u.2 0 = b.toInt64) ∨ (u.1 = S ∧ ∃ E, qx_drop S (xs (i + 1)) E ∧ ((E = kx_nse ∧ v = nI 1))))) (As := [.ref (kg_h G), .int (xs (i + 1)), .ref o]) (rest := []) ⟨hx, hb, hml, hown, hts⟩ (kL_drop l hl0 G cJ o S f (xs (i + 1)) hR.hP hR.V) (vx_cwSW 3 hts gL_78 rfl rfl rfl hL_drop.2 ⟨Nat.le_of_ble_eq_true rfl, Nat.le_of_ble_eq_true rfl⟩) hW0 hZ rfl hl.1 rfl (Nat.le_of_ble_eq_true rfl) dL_law_260 ⟨by omega, by omega⟩ (fun v u H locs hp hZ => ?_)
  refine lv_istore (lv' := [(5, .int v), (4, .int (nI i)), (3, .ref o), (2, .ref (mg_h E)), (1, .ref (kg_h G)), (0, .ref b)]) hx hb dL_law_263 hl (by decide) rfl (fun ls hl => ?_)
  refine lv_aload_n hx hb dL_law_265 rfl (lv_at hl 3 rfl) ?_
  refine lv_aload_n hx hb dL_law_266 rfl (lv_at hl 5 rfl) ?_
  refine lv_iload hx hb dL_law_267 (lv_at hl 1 rfl) ?_
  refine lv_iconst (v := (nI 1)) hx hb dL_law_269 (by decide +kernel) ?_
  refine wn_add hx hb dL_law_270 ?_
  refine lr_s (L := L) hx hb hX hbl hZ (by omega) hL dL_law_271 ?_
  refine lr_m (post := (qm_drop M (xs (i + 1)))) (As := [.int (xs (i + 1))]) (rest := []) ⟨hx, hb, hml, hown, hts⟩ (k1_drop l E M (xs (i + 1)) hR.O) (cwV 1 hts gL_80 rfl rfl rfl hX1_drop ⟨Nat.le_of_ble_eq_true rfl, Nat.le_of_ble_eq_true rfl⟩) hW0 hZ rfl hl.1 rfl (Nat.le_of_ble_eq_true rfl) dL_law_272 ⟨by omega, by omega⟩ (fun bb M1 H locs hm hZ => ?_)
  refine lv_istore (lv' := [(6, .int bb), (5, .int v), (4, .int (nI i)), (3, .ref o), (2, .ref (mg_h E)), (1, .ref (kg_h G)), (0, .ref b)]) hx hb dL_law_275 hl (by decide) rfl (fun ls hl => ?_)
  have hq : lcQ lc_i u v bb M1 := by
    rcases hp with ⟨h1, d, h2, h3⟩ | ⟨hu, E9, hx9, hv⟩
    · obtain ⟨e1, rfl, e3⟩ := rl_drop_o hR h2 hm
      exact ⟨by rw [e1]; exact h1, e3, Or.inl ⟨h1, h3⟩⟩
    · exact lc_1 hu hv (rl_drop_x hR hx9 hm)
  obtain ⟨hv1, hR1, hq⟩ := hq
  refine lv_aload_n hx hb dL_law_277 rfl (lv_at hl 4 rfl) ?_
  refine lr_m (post := (fun (v : Int32) (S' : ms_T) => v = nI (ms_t M1) ∧ S' = M1)) (As := []) (rest := []) ⟨hx, hb, hml, hown, hts⟩ (k1_thrown l E M1) (cwV 0 hts gL_70 rfl rfl rfl hX1_thrown ⟨Nat.le_of_ble_eq_true rfl, Nat.le_of_ble_eq_true rfl⟩) hW0 hZ rfl hl.1 rfl (Nat.le_of_ble_eq_true rfl) dL_law_278 ⟨by omega, by omega⟩ (fun th M2 H locs ht hZ => ?_)
  obtain ⟨ht1, ht2⟩ := ht
  rw [ht2] at hZ
  have ht3 : th = v := ht1.trans hv1.symm
  refine lv_iload hx hb dL_law_281 (lv_at hl 1 rfl) ?_
  refine lv_icmp_eq (tgt := 288) hx hb dL_law_283 rfl (fun _ => ?_) (fun h9 => absurd ht3 h9)
  refine lv_iload hx hb dL_law_288 (lv_at hl 1 rfl) ?_
  rcases hq with ⟨hv0, ho9⟩ | ⟨k9, hk9, hv0⟩
  · have hz : v = 0 := by rw [hv0]; exact nI_0
    refine lv_if_ne (tgt := 305) hx hb dL_law_290 rfl (fun h9 => absurd hz h9) (fun _ => ?_)
    refine lv_aload_n hx hb dL_law_293 rfl (lv_at hl 3 rfl) ?_
    refine lv_iconst (v := (nI 0)) hx hb dL_law_294 (by decide +kernel) ?_
    refine va_lald hx hb hW0.2.2.1 hZ.2.2.2.2.1 0 0 rfl rfl (vp_in_nI (by omega) (by omega)) dL_law_295 ?_
    rw [nI_clamp (by omega), ho9]
    refine lv_iload hx hb dL_law_296 (lv_at hl 0 rfl) ?_
    refine lv_i2l (v := lc_i bb) hx hb dL_law_298 rfl ?_
    refine W.lcmp hx hb dL_law_299 ?_
    have e8 : lg_cmp (lc_i bb) (lc_i bb) = 0 := lg_cmp0 _
    refine lv_if_eq (tgt := 305) hx hb dL_law_300 rfl (fun _ => ?_) (fun h9 => absurd e8 h9)
    refine lv_goto (tgt := 1088) hx hb dL_law_305 rfl ?_
    have hl := lv_sub (l' := [(4, .int (nI i)), (3, .ref o), (2, .ref (mg_h E)), (1, .ref (kg_h G)), (0, .ref b)]) hl [2, 3, 4, 5, 6] rfl
    refine W.widen (k := cells + 3) (n := slots + 18) (by omega) (by omega) ?_
    exact hgo u.1 M1 u.2 _ _ _ hR1 hl hZ
  · have hnz : ¬ v = 0 := by
      rw [hv0]
      rcases hk9 with rfl | rfl <;> decide
    refine lv_if_ne (tgt := 305) hx hb dL_law_290 rfl (fun _ => ?_) (fun h9 => absurd h9 hnz)
    refine lv_goto (tgt := 1088) hx hb dL_law_305 rfl ?_
    have hl := lv_sub (l' := [(4, .int (nI i)), (3, .ref o), (2, .ref (mg_h E)), (1, .ref (kg_h G)), (0, .ref b)]) hl [2, 3, 4, 5, 6] rfl
    refine W.widen (k := cells + 3) (n := slots + 18) (by omega) (by omega) ?_
    exact hgo u.1 M1 u.2 _ _ _ hR1 hl hZ
set_option maxHeartbeats 4000000 in
set_option maxRecDepth 100000 in
theorem law_write {p : Program} {l : Launch} {e : Env} {s : State} {m : MethodId} {below : List Frame} {meth : Method} {c : Code} {b L : Nat} {xs : Nat → Int32} {G : kg_T} {E : mg_T} {o : Nat} {cJ : ClassId} (hB : lwB p l s m meth c b L xs G E o cJ) {i : Nat} (hi : i + 6 ≤ L) {S : ks_T} {M : ms_T} {f : Nat → Int64} {ls : Array Slot} {H : Heap} {locs : List Loc} {cells slots : Nat} (hR : rl S M) (hl : lv_has ls 7 [(4, .int (nI i)), (3, .ref o), (2, .ref (mg_h E)), (1, .ref (kg_h G)), (0, .ref b)]) (hZ : lz G E o cJ s.heap S M f H locs) (hcl : cells + 3 ≤ 601024) (hsl : slots + 18 ≤ 7293034) (hgo : ∀ (S1 : ks_T) (M1 : ms_T) (f1 : Nat → Int64) (ls1 : Array Slot) (H1 : Heap) (locs1 : List Loc), rl S1 M1 → lv_has ls1 7 [(4, .int (nI i)), (3, .ref o), (2, .ref (mg_h E)), (1, .ref (kg_h G)), (0, .ref b)] → lz G E o cJ s.heap S1 M1 f1 H1 locs1 → W p l e room_1 s m #[Value.ref b] below meth c H1 locs1 (cells + 3) (slots + 18) (lw_Z below #[Value.ref b] s) (F0 m 1088 ls1 [])) : W p l e room_1 s m #[Value.ref b] below meth c H locs cells slots (lw_Z below #[Value.ref b] s) (F0 m 308 ls []) := by
  obtain ⟨hx, hb, hr, hml, hown, hts, hX, hbl, hlk, hl0, hL, hW0⟩ := hB
  have hc9 : cells + 3 ≤ room_1.cells := hcl
  have hs9 : slots + 18 ≤ room_1.slots := hsl
  have hc0 : cells ≤ room_1.cells := by omega
  have hs0 : slots ≤ room_1.slots := by omega
  refine lv_aload_n hx hb dL_law_308 rfl (lv_at hl 3 rfl) ?_
  refine lv_aload_n hx hb dL_law_309 rfl (lv_at hl 4 rfl) ?_
  refine lv_iload hx hb dL_law_310 (lv_at hl 0 rfl) ?_
  refine lv_iconst (v := (nI 1)) hx hb dL_law_312 (by decide +kernel) ?_
  refine wn_add hx hb dL_law_313 ?_
  refine lr_s (L := L) hx hb hX hbl hZ (by omega) hL dL_law_314 ?_
  refine lv_aload_n hx hb dL_law_315 rfl (lv_at hl 4 rfl) ?_
  refine lv_iload hx hb dL_law_316 (lv_at hl 0 rfl) ?_
  refine lv_iconst (v := (nI 2)) hx hb dL_law_318 (by decide +kernel) ?_
  refine wn_add hx hb dL_law_319 ?_
  refine lr_s (L := L) hx hb hX hbl hZ (by omega) hL dL_law_320 ?_
  refine lv_aload_n hx hb dL_law_321 rfl (lv_at hl 4 rfl) ?_
  refine lv_iload hx hb dL_law_322 (lv_at hl 0 rfl) ?_
  refine lv_iconst (v := (nI 3)) hx hb dL_law_324 (by decide +kernel) ?_
  refine wn_add hx hb dL_law_325 ?_
  refine lr_s (L := L) hx hb hX hbl hZ (by omega) hL dL_law_326 ?_
  refine lv_aload_n hx hb dL_law_327 rfl (lv_at hl 4 rfl) ?_
  refine lv_iload hx hb dL_law_328 (lv_at hl 0 rfl) ?_
  refine lv_iconst (v := (nI 4)) hx hb dL_law_330 (by decide +kernel) ?_
  refine wn_add hx hb dL_law_331 ?_
  refine lr_s (L := L) hx hb hX hbl hZ (by omega) hL dL_law_332 ?_
  refine lv_aload_n hx hb dL_law_333 rfl (lv_at hl 1 rfl) ?_
  refine lr_w (hh := [(0, 14, 17, 21), (0, 14, 21, 30)]) (post := (fun (v : Int32) (u : ks_T × (Nat → Int64)) => (v = nI 0 ∧ ∃ b, qo_write S (xs (i + 1)) (xs (i + 2)) (xs (i + 3)) (xs (i + 4)) b u.1 ∧ u.2 0 = b.toInt64) ∨ (u.1 = S ∧ ∃ E, qx_write S (xs (i + 1)) (xs (i + 2)) (xs (i + 3)) (xs (i + 4)) E ∧ ((E = kx_nse ∧ v = nI 1) ∨ (E = kx_ae ∧ v = nI 2))))) (As := [.ref (kg_h G), .int (xs (i + 1)), .int (xs (i + 2)), .int (xs (i + 3)), .int (xs (i + 4)), .ref o]) (rest := []) ⟨hx, hb, hml, hown, hts⟩ (kL_write l hl0 G cJ o S f (xs (i + 1)) (xs (i + 2)) (xs (i + 3)) (xs (i + 4)) hR.hP hR.V) (vx_cwSW 6 hts gL_81 rfl rfl rfl hL_write.2 ⟨Nat.le_of_ble_eq_true rfl, Nat.le_of_ble_eq_true rfl⟩) hW0 hZ rfl hl.1 rfl (Nat.le_of_ble_eq_true rfl) dL_law_334 ⟨by omega, by omega⟩ (fun v u H locs hp hZ => ?_)
  refine lv_istore (lv' := [(5, .int v), (4, .int (nI i)), (3, .ref o), (2, .ref (mg_h E)), (1, .ref (kg_h G)), (0, .ref b)]) hx hb dL_law_337 hl (by decide) rfl (fun ls hl => ?_)
  refine lv_aload_n hx hb dL_law_339 rfl (lv_at hl 3 rfl) ?_
  refine lv_aload_n hx hb dL_law_340 rfl (lv_at hl 5 rfl) ?_
  refine lv_iload hx hb dL_law_341 (lv_at hl 1 rfl) ?_
  refine lv_iconst (v := (nI 1)) hx hb dL_law_343 (by decide +kernel) ?_
  refine wn_add hx hb dL_law_344 ?_
  refine lr_s (L := L) hx hb hX hbl hZ (by omega) hL dL_law_345 ?_
  refine lv_aload_n hx hb dL_law_346 rfl (lv_at hl 5 rfl) ?_
  refine lv_iload hx hb dL_law_347 (lv_at hl 1 rfl) ?_
  refine lv_iconst (v := (nI 2)) hx hb dL_law_349 (by decide +kernel) ?_
  refine wn_add hx hb dL_law_350 ?_
  refine lr_s (L := L) hx hb hX hbl hZ (by omega) hL dL_law_351 ?_
  refine lv_aload_n hx hb dL_law_352 rfl (lv_at hl 5 rfl) ?_
  refine lv_iload hx hb dL_law_353 (lv_at hl 1 rfl) ?_
  refine lv_iconst (v := (nI 3)) hx hb dL_law_355 (by decide +kernel) ?_
  refine wn_add hx hb dL_law_356 ?_
  refine lr_s (L := L) hx hb hX hbl hZ (by omega) hL dL_law_357 ?_
  refine lv_aload_n hx hb dL_law_358 rfl (lv_at hl 5 rfl) ?_
  refine lv_iload hx hb dL_law_359 (lv_at hl 1 rfl) ?_
  refine lv_iconst (v := (nI 4)) hx hb dL_law_361 (by decide +kernel) ?_
  refine wn_add hx hb dL_law_362 ?_
  refine lr_s (L := L) hx hb hX hbl hZ (by omega) hL dL_law_363 ?_
  refine lr_m (post := (qm_write M (xs (i + 1)) (xs (i + 2)) (xs (i + 3)) (xs (i + 4)))) (As := [.int (xs (i + 1)), .int (xs (i + 2)), .int (xs (i + 3)), .int (xs (i + 4))]) (rest := []) ⟨hx, hb, hml, hown, hts⟩ (k1_write l E M (xs (i + 1)) (xs (i + 2)) (xs (i + 3)) (xs (i + 4)) hR.O) (cwV 4 hts gL_84 rfl rfl rfl hX1_write ⟨Nat.le_of_ble_eq_true rfl, Nat.le_of_ble_eq_true rfl⟩) hW0 hZ rfl hl.1 rfl (Nat.le_of_ble_eq_true rfl) dL_law_364 ⟨by omega, by omega⟩ (fun bb M1 H locs hm hZ => ?_)
  refine lv_istore (lv' := [(6, .int bb), (5, .int v), (4, .int (nI i)), (3, .ref o), (2, .ref (mg_h E)), (1, .ref (kg_h G)), (0, .ref b)]) hx hb dL_law_367 hl (by decide) rfl (fun ls hl => ?_)
  have hq : lcQ lc_i u v bb M1 := by
    rcases hp with ⟨h1, d, h2, h3⟩ | ⟨hu, E9, hx9, hv⟩
    · obtain ⟨e1, rfl, e3⟩ := rl_write_o hR h2 hm
      exact ⟨by rw [e1]; exact h1, e3, Or.inl ⟨h1, h3⟩⟩
    · exact lc_2 (by decide) hu hv (rl_write_x hR hx9 hm)
  obtain ⟨hv1, hR1, hq⟩ := hq
  refine lv_aload_n hx hb dL_law_369 rfl (lv_at hl 4 rfl) ?_
  refine lr_m (post := (fun (v : Int32) (S' : ms_T) => v = nI (ms_t M1) ∧ S' = M1)) (As := []) (rest := []) ⟨hx, hb, hml, hown, hts⟩ (k1_thrown l E M1) (cwV 0 hts gL_70 rfl rfl rfl hX1_thrown ⟨Nat.le_of_ble_eq_true rfl, Nat.le_of_ble_eq_true rfl⟩) hW0 hZ rfl hl.1 rfl (Nat.le_of_ble_eq_true rfl) dL_law_370 ⟨by omega, by omega⟩ (fun th M2 H locs ht hZ => ?_)
  obtain ⟨ht1, ht2⟩ := ht
  rw [ht2] at hZ
  have ht3 : th = v := ht1.trans hv1.symm
  refine lv_iload hx hb dL_law_373 (lv_at hl 1 rfl) ?_
  refine lv_icmp_eq (tgt := 380) hx hb dL_law_375 rfl (fun _ => ?_) (fun h9 => absurd ht3 h9)
  refine lv_iload hx hb dL_law_380 (lv_at hl 1 rfl) ?_
  rcases hq with ⟨hv0, ho9⟩ | ⟨k9, hk9, hv0⟩
  · have hz : v = 0 := by rw [hv0]; exact nI_0
    refine lv_if_ne (tgt := 397) hx hb dL_law_382 rfl (fun h9 => absurd hz h9) (fun _ => ?_)
    refine lv_aload_n hx hb dL_law_385 rfl (lv_at hl 3 rfl) ?_
    refine lv_iconst (v := (nI 0)) hx hb dL_law_386 (by decide +kernel) ?_
    refine va_lald hx hb hW0.2.2.1 hZ.2.2.2.2.1 0 0 rfl rfl (vp_in_nI (by omega) (by omega)) dL_law_387 ?_
    rw [nI_clamp (by omega), ho9]
    refine lv_iload hx hb dL_law_388 (lv_at hl 0 rfl) ?_
    refine lv_i2l (v := lc_i bb) hx hb dL_law_390 rfl ?_
    refine W.lcmp hx hb dL_law_391 ?_
    have e8 : lg_cmp (lc_i bb) (lc_i bb) = 0 := lg_cmp0 _
    refine lv_if_eq (tgt := 397) hx hb dL_law_392 rfl (fun _ => ?_) (fun h9 => absurd e8 h9)
    refine lv_goto (tgt := 1088) hx hb dL_law_397 rfl ?_
    have hl := lv_sub (l' := [(4, .int (nI i)), (3, .ref o), (2, .ref (mg_h E)), (1, .ref (kg_h G)), (0, .ref b)]) hl [2, 3, 4, 5, 6] rfl
    refine W.widen (k := cells + 3) (n := slots + 18) (by omega) (by omega) ?_
    exact hgo u.1 M1 u.2 _ _ _ hR1 hl hZ
  · have hnz : ¬ v = 0 := by
      rw [hv0]
      rcases hk9 with rfl | rfl <;> decide
    refine lv_if_ne (tgt := 397) hx hb dL_law_382 rfl (fun _ => ?_) (fun h9 => absurd h9 hnz)
    refine lv_goto (tgt := 1088) hx hb dL_law_397 rfl ?_
    have hl := lv_sub (l' := [(4, .int (nI i)), (3, .ref o), (2, .ref (mg_h E)), (1, .ref (kg_h G)), (0, .ref b)]) hl [2, 3, 4, 5, 6] rfl
    refine W.widen (k := cells + 3) (n := slots + 18) (by omega) (by omega) ?_
    exact hgo u.1 M1 u.2 _ _ _ hR1 hl hZ
set_option maxHeartbeats 4000000 in
set_option maxRecDepth 100000 in
theorem law_read {p : Program} {l : Launch} {e : Env} {s : State} {m : MethodId} {below : List Frame} {meth : Method} {c : Code} {b L : Nat} {xs : Nat → Int32} {G : kg_T} {E : mg_T} {o : Nat} {cJ : ClassId} (hB : lwB p l s m meth c b L xs G E o cJ) {i : Nat} (hi : i + 6 ≤ L) {S : ks_T} {M : ms_T} {f : Nat → Int64} {ls : Array Slot} {H : Heap} {locs : List Loc} {cells slots : Nat} (hR : rl S M) (hl : lv_has ls 7 [(4, .int (nI i)), (3, .ref o), (2, .ref (mg_h E)), (1, .ref (kg_h G)), (0, .ref b)]) (hZ : lz G E o cJ s.heap S M f H locs) (hcl : cells + 3 ≤ 601024) (hsl : slots + 18 ≤ 7293034) (hgo : ∀ (S1 : ks_T) (M1 : ms_T) (f1 : Nat → Int64) (ls1 : Array Slot) (H1 : Heap) (locs1 : List Loc), rl S1 M1 → lv_has ls1 7 [(4, .int (nI i)), (3, .ref o), (2, .ref (mg_h E)), (1, .ref (kg_h G)), (0, .ref b)] → lz G E o cJ s.heap S1 M1 f1 H1 locs1 → W p l e room_1 s m #[Value.ref b] below meth c H1 locs1 (cells + 3) (slots + 18) (lw_Z below #[Value.ref b] s) (F0 m 1088 ls1 [])) : W p l e room_1 s m #[Value.ref b] below meth c H locs cells slots (lw_Z below #[Value.ref b] s) (F0 m 400 ls []) := by
  obtain ⟨hx, hb, hr, hml, hown, hts, hX, hbl, hlk, hl0, hL, hW0⟩ := hB
  have hc9 : cells + 3 ≤ room_1.cells := hcl
  have hs9 : slots + 18 ≤ room_1.slots := hsl
  have hc0 : cells ≤ room_1.cells := by omega
  have hs0 : slots ≤ room_1.slots := by omega
  refine lv_aload_n hx hb dL_law_400 rfl (lv_at hl 3 rfl) ?_
  refine lv_aload_n hx hb dL_law_401 rfl (lv_at hl 4 rfl) ?_
  refine lv_iload hx hb dL_law_402 (lv_at hl 0 rfl) ?_
  refine lv_iconst (v := (nI 1)) hx hb dL_law_404 (by decide +kernel) ?_
  refine wn_add hx hb dL_law_405 ?_
  refine lr_s (L := L) hx hb hX hbl hZ (by omega) hL dL_law_406 ?_
  refine lv_aload_n hx hb dL_law_407 rfl (lv_at hl 4 rfl) ?_
  refine lv_iload hx hb dL_law_408 (lv_at hl 0 rfl) ?_
  refine lv_iconst (v := (nI 2)) hx hb dL_law_410 (by decide +kernel) ?_
  refine wn_add hx hb dL_law_411 ?_
  refine lr_s (L := L) hx hb hX hbl hZ (by omega) hL dL_law_412 ?_
  refine lv_aload_n hx hb dL_law_413 rfl (lv_at hl 4 rfl) ?_
  refine lv_iload hx hb dL_law_414 (lv_at hl 0 rfl) ?_
  refine lv_iconst (v := (nI 3)) hx hb dL_law_416 (by decide +kernel) ?_
  refine wn_add hx hb dL_law_417 ?_
  refine lr_s (L := L) hx hb hX hbl hZ (by omega) hL dL_law_418 ?_
  refine lv_aload_n hx hb dL_law_419 rfl (lv_at hl 1 rfl) ?_
  refine lr_w (hh := [(0, 12, 15, 21)]) (post := (fun (v : Int32) (u : ks_T × (Nat → Int64)) => (v = nI 0 ∧ ∃ b, qo_read S (xs (i + 1)) (xs (i + 2)) (xs (i + 3)) b u.1 ∧ u.2 0 = b.toInt64) ∨ (u.1 = S ∧ ∃ E, qx_read S (xs (i + 1)) (xs (i + 2)) (xs (i + 3)) E ∧ ((E = kx_nse ∧ v = nI 1))))) (As := [.ref (kg_h G), .int (xs (i + 1)), .int (xs (i + 2)), .int (xs (i + 3)), .ref o]) (rest := []) ⟨hx, hb, hml, hown, hts⟩ (kL_read l hl0 G cJ o S f (xs (i + 1)) (xs (i + 2)) (xs (i + 3)) hR.hP hR.V) (vx_cwSW 5 hts gL_85 rfl rfl rfl hL_read.2 ⟨Nat.le_of_ble_eq_true rfl, Nat.le_of_ble_eq_true rfl⟩) hW0 hZ rfl hl.1 rfl (Nat.le_of_ble_eq_true rfl) dL_law_420 ⟨by omega, by omega⟩ (fun v u H locs hp hZ => ?_)
  refine lv_istore (lv' := [(5, .int v), (4, .int (nI i)), (3, .ref o), (2, .ref (mg_h E)), (1, .ref (kg_h G)), (0, .ref b)]) hx hb dL_law_423 hl (by decide) rfl (fun ls hl => ?_)
  refine lv_aload_n hx hb dL_law_425 rfl (lv_at hl 3 rfl) ?_
  refine lv_aload_n hx hb dL_law_426 rfl (lv_at hl 5 rfl) ?_
  refine lv_iload hx hb dL_law_427 (lv_at hl 1 rfl) ?_
  refine lv_iconst (v := (nI 1)) hx hb dL_law_429 (by decide +kernel) ?_
  refine wn_add hx hb dL_law_430 ?_
  refine lr_s (L := L) hx hb hX hbl hZ (by omega) hL dL_law_431 ?_
  refine lv_aload_n hx hb dL_law_432 rfl (lv_at hl 5 rfl) ?_
  refine lv_iload hx hb dL_law_433 (lv_at hl 1 rfl) ?_
  refine lv_iconst (v := (nI 2)) hx hb dL_law_435 (by decide +kernel) ?_
  refine wn_add hx hb dL_law_436 ?_
  refine lr_s (L := L) hx hb hX hbl hZ (by omega) hL dL_law_437 ?_
  refine lv_aload_n hx hb dL_law_438 rfl (lv_at hl 5 rfl) ?_
  refine lv_iload hx hb dL_law_439 (lv_at hl 1 rfl) ?_
  refine lv_iconst (v := (nI 3)) hx hb dL_law_441 (by decide +kernel) ?_
  refine wn_add hx hb dL_law_442 ?_
  refine lr_s (L := L) hx hb hX hbl hZ (by omega) hL dL_law_443 ?_
  refine lr_m (post := (qm_read M (xs (i + 1)) (xs (i + 2)) (xs (i + 3)))) (As := [.int (xs (i + 1)), .int (xs (i + 2)), .int (xs (i + 3))]) (rest := []) ⟨hx, hb, hml, hown, hts⟩ (k1_read l E M (xs (i + 1)) (xs (i + 2)) (xs (i + 3)) hR.O) (cwV 3 hts gL_87 rfl rfl rfl hX1_read ⟨Nat.le_of_ble_eq_true rfl, Nat.le_of_ble_eq_true rfl⟩) hW0 hZ rfl hl.1 rfl (Nat.le_of_ble_eq_true rfl) dL_law_444 ⟨by omega, by omega⟩ (fun bb M1 H locs hm hZ => ?_)
  refine lv_istore (lv' := [(6, .int bb), (5, .int v), (4, .int (nI i)), (3, .ref o), (2, .ref (mg_h E)), (1, .ref (kg_h G)), (0, .ref b)]) hx hb dL_law_447 hl (by decide) rfl (fun ls hl => ?_)
  have hq : lcQ lc_i u v bb M1 := by
    rcases hp with ⟨h1, d, h2, h3⟩ | ⟨hu, E9, hx9, hv⟩
    · obtain ⟨e1, rfl, e3⟩ := rl_read_o hR h2 hm
      exact ⟨by rw [e1]; exact h1, e3, Or.inl ⟨h1, h3⟩⟩
    · exact lc_1 hu hv (rl_read_x hR hx9 hm)
  obtain ⟨hv1, hR1, hq⟩ := hq
  refine lv_aload_n hx hb dL_law_449 rfl (lv_at hl 4 rfl) ?_
  refine lr_m (post := (fun (v : Int32) (S' : ms_T) => v = nI (ms_t M1) ∧ S' = M1)) (As := []) (rest := []) ⟨hx, hb, hml, hown, hts⟩ (k1_thrown l E M1) (cwV 0 hts gL_70 rfl rfl rfl hX1_thrown ⟨Nat.le_of_ble_eq_true rfl, Nat.le_of_ble_eq_true rfl⟩) hW0 hZ rfl hl.1 rfl (Nat.le_of_ble_eq_true rfl) dL_law_450 ⟨by omega, by omega⟩ (fun th M2 H locs ht hZ => ?_)
  obtain ⟨ht1, ht2⟩ := ht
  rw [ht2] at hZ
  have ht3 : th = v := ht1.trans hv1.symm
  refine lv_iload hx hb dL_law_453 (lv_at hl 1 rfl) ?_
  refine lv_icmp_eq (tgt := 460) hx hb dL_law_455 rfl (fun _ => ?_) (fun h9 => absurd ht3 h9)
  refine lv_iload hx hb dL_law_460 (lv_at hl 1 rfl) ?_
  rcases hq with ⟨hv0, ho9⟩ | ⟨k9, hk9, hv0⟩
  · have hz : v = 0 := by rw [hv0]; exact nI_0
    refine lv_if_ne (tgt := 477) hx hb dL_law_462 rfl (fun h9 => absurd hz h9) (fun _ => ?_)
    refine lv_aload_n hx hb dL_law_465 rfl (lv_at hl 3 rfl) ?_
    refine lv_iconst (v := (nI 0)) hx hb dL_law_466 (by decide +kernel) ?_
    refine va_lald hx hb hW0.2.2.1 hZ.2.2.2.2.1 0 0 rfl rfl (vp_in_nI (by omega) (by omega)) dL_law_467 ?_
    rw [nI_clamp (by omega), ho9]
    refine lv_iload hx hb dL_law_468 (lv_at hl 0 rfl) ?_
    refine lv_i2l (v := lc_i bb) hx hb dL_law_470 rfl ?_
    refine W.lcmp hx hb dL_law_471 ?_
    have e8 : lg_cmp (lc_i bb) (lc_i bb) = 0 := lg_cmp0 _
    refine lv_if_eq (tgt := 477) hx hb dL_law_472 rfl (fun _ => ?_) (fun h9 => absurd e8 h9)
    refine lv_goto (tgt := 1088) hx hb dL_law_477 rfl ?_
    have hl := lv_sub (l' := [(4, .int (nI i)), (3, .ref o), (2, .ref (mg_h E)), (1, .ref (kg_h G)), (0, .ref b)]) hl [2, 3, 4, 5, 6] rfl
    refine W.widen (k := cells + 3) (n := slots + 18) (by omega) (by omega) ?_
    exact hgo u.1 M1 u.2 _ _ _ hR1 hl hZ
  · have hnz : ¬ v = 0 := by
      rw [hv0]
      rcases hk9 with rfl | rfl <;> decide
    refine lv_if_ne (tgt := 477) hx hb dL_law_462 rfl (fun _ => ?_) (fun h9 => absurd h9 hnz)
    refine lv_goto (tgt := 1088) hx hb dL_law_477 rfl ?_
    have hl := lv_sub (l' := [(4, .int (nI i)), (3, .ref o), (2, .ref (mg_h E)), (1, .ref (kg_h G)), (0, .ref b)]) hl [2, 3, 4, 5, 6] rfl
    refine W.widen (k := cells + 3) (n := slots + 18) (by omega) (by omega) ?_
    exact hgo u.1 M1 u.2 _ _ _ hR1 hl hZ
set_option maxHeartbeats 4000000 in
set_option maxRecDepth 100000 in
theorem law_lay {p : Program} {l : Launch} {e : Env} {s : State} {m : MethodId} {below : List Frame} {meth : Method} {c : Code} {b L : Nat} {xs : Nat → Int32} {G : kg_T} {E : mg_T} {o : Nat} {cJ : ClassId} (hB : lwB p l s m meth c b L xs G E o cJ) {i : Nat} (hi : i + 6 ≤ L) {S : ks_T} {M : ms_T} {f : Nat → Int64} {ls : Array Slot} {H : Heap} {locs : List Loc} {cells slots : Nat} (hR : rl S M) (hl : lv_has ls 7 [(4, .int (nI i)), (3, .ref o), (2, .ref (mg_h E)), (1, .ref (kg_h G)), (0, .ref b)]) (hZ : lz G E o cJ s.heap S M f H locs) (hcl : cells + 3 ≤ 601024) (hsl : slots + 18 ≤ 7293034) (hgo : ∀ (S1 : ks_T) (M1 : ms_T) (f1 : Nat → Int64) (ls1 : Array Slot) (H1 : Heap) (locs1 : List Loc), rl S1 M1 → lv_has ls1 7 [(4, .int (nI i)), (3, .ref o), (2, .ref (mg_h E)), (1, .ref (kg_h G)), (0, .ref b)] → lz G E o cJ s.heap S1 M1 f1 H1 locs1 → W p l e room_1 s m #[Value.ref b] below meth c H1 locs1 (cells + 3) (slots + 18) (lw_Z below #[Value.ref b] s) (F0 m 1088 ls1 [])) : W p l e room_1 s m #[Value.ref b] below meth c H locs cells slots (lw_Z below #[Value.ref b] s) (F0 m 480 ls []) := by
  obtain ⟨hx, hb, hr, hml, hown, hts, hX, hbl, hlk, hl0, hL, hW0⟩ := hB
  have hc9 : cells + 3 ≤ room_1.cells := hcl
  have hs9 : slots + 18 ≤ room_1.slots := hsl
  have hc0 : cells ≤ room_1.cells := by omega
  have hs0 : slots ≤ room_1.slots := by omega
  refine lv_aload_n hx hb dL_law_480 rfl (lv_at hl 3 rfl) ?_
  refine lv_aload_n hx hb dL_law_481 rfl (lv_at hl 4 rfl) ?_
  refine lv_iload hx hb dL_law_482 (lv_at hl 0 rfl) ?_
  refine lv_iconst (v := (nI 1)) hx hb dL_law_484 (by decide +kernel) ?_
  refine wn_add hx hb dL_law_485 ?_
  refine lr_s (L := L) hx hb hX hbl hZ (by omega) hL dL_law_486 ?_
  refine lv_aload_n hx hb dL_law_487 rfl (lv_at hl 4 rfl) ?_
  refine lv_iload hx hb dL_law_488 (lv_at hl 0 rfl) ?_
  refine lv_iconst (v := (nI 2)) hx hb dL_law_490 (by decide +kernel) ?_
  refine wn_add hx hb dL_law_491 ?_
  refine lr_s (L := L) hx hb hX hbl hZ (by omega) hL dL_law_492 ?_
  refine lv_aload_n hx hb dL_law_493 rfl (lv_at hl 4 rfl) ?_
  refine lv_iload hx hb dL_law_494 (lv_at hl 0 rfl) ?_
  refine lv_iconst (v := (nI 3)) hx hb dL_law_496 (by decide +kernel) ?_
  refine wn_add hx hb dL_law_497 ?_
  refine lr_s (L := L) hx hb hX hbl hZ (by omega) hL dL_law_498 ?_
  refine lv_aload_n hx hb dL_law_499 rfl (lv_at hl 4 rfl) ?_
  refine lv_iload hx hb dL_law_500 (lv_at hl 0 rfl) ?_
  refine lv_iconst (v := (nI 4)) hx hb dL_law_502 (by decide +kernel) ?_
  refine wn_add hx hb dL_law_503 ?_
  refine lr_s (L := L) hx hb hX hbl hZ (by omega) hL dL_law_504 ?_
  refine lv_aload_n hx hb dL_law_505 rfl (lv_at hl 4 rfl) ?_
  refine lv_iload hx hb dL_law_506 (lv_at hl 0 rfl) ?_
  refine lv_iconst (v := (nI 5)) hx hb dL_law_508 (by decide +kernel) ?_
  refine wn_add hx hb dL_law_509 ?_
  refine lr_s (L := L) hx hb hX hbl hZ (by omega) hL dL_law_510 ?_
  refine lv_aload_n hx hb dL_law_511 rfl (lv_at hl 1 rfl) ?_
  refine lr_w (hh := [(0, 16, 19, 21)]) (post := (fun (v : Int32) (u : ks_T × (Nat → Int64)) => (v = nI 0 ∧ ∃ b, qo_lay S (xs (i + 1)) (xs (i + 2)) (xs (i + 3)) (xs (i + 4)) (xs (i + 5)) b u.1 ∧ u.2 0 = b.toInt64) ∨ (u.1 = S ∧ ∃ E, qx_lay S (xs (i + 1)) (xs (i + 2)) (xs (i + 3)) (xs (i + 4)) (xs (i + 5)) E ∧ ((E = kx_nse ∧ v = nI 1))))) (As := [.ref (kg_h G), .int (xs (i + 1)), .int (xs (i + 2)), .int (xs (i + 3)), .int (xs (i + 4)), .int (xs (i + 5)), .ref o]) (rest := []) ⟨hx, hb, hml, hown, hts⟩ (kL_lay l hl0 G cJ o S f (xs (i + 1)) (xs (i + 2)) (xs (i + 3)) (xs (i + 4)) (xs (i + 5)) hR.hP hR.V) (vx_cwSW 7 hts gL_88 rfl rfl rfl hL_lay.2 ⟨Nat.le_of_ble_eq_true rfl, Nat.le_of_ble_eq_true rfl⟩) hW0 hZ rfl hl.1 rfl (Nat.le_of_ble_eq_true rfl) dL_law_512 ⟨by omega, by omega⟩ (fun v u H locs hp hZ => ?_)
  refine lv_istore (lv' := [(5, .int v), (4, .int (nI i)), (3, .ref o), (2, .ref (mg_h E)), (1, .ref (kg_h G)), (0, .ref b)]) hx hb dL_law_515 hl (by decide) rfl (fun ls hl => ?_)
  refine lv_aload_n hx hb dL_law_517 rfl (lv_at hl 3 rfl) ?_
  refine lv_aload_n hx hb dL_law_518 rfl (lv_at hl 5 rfl) ?_
  refine lv_iload hx hb dL_law_519 (lv_at hl 1 rfl) ?_
  refine lv_iconst (v := (nI 1)) hx hb dL_law_521 (by decide +kernel) ?_
  refine wn_add hx hb dL_law_522 ?_
  refine lr_s (L := L) hx hb hX hbl hZ (by omega) hL dL_law_523 ?_
  refine lv_aload_n hx hb dL_law_524 rfl (lv_at hl 5 rfl) ?_
  refine lv_iload hx hb dL_law_525 (lv_at hl 1 rfl) ?_
  refine lv_iconst (v := (nI 2)) hx hb dL_law_527 (by decide +kernel) ?_
  refine wn_add hx hb dL_law_528 ?_
  refine lr_s (L := L) hx hb hX hbl hZ (by omega) hL dL_law_529 ?_
  refine lv_aload_n hx hb dL_law_530 rfl (lv_at hl 5 rfl) ?_
  refine lv_iload hx hb dL_law_531 (lv_at hl 1 rfl) ?_
  refine lv_iconst (v := (nI 3)) hx hb dL_law_533 (by decide +kernel) ?_
  refine wn_add hx hb dL_law_534 ?_
  refine lr_s (L := L) hx hb hX hbl hZ (by omega) hL dL_law_535 ?_
  refine lv_aload_n hx hb dL_law_536 rfl (lv_at hl 5 rfl) ?_
  refine lv_iload hx hb dL_law_537 (lv_at hl 1 rfl) ?_
  refine lv_iconst (v := (nI 4)) hx hb dL_law_539 (by decide +kernel) ?_
  refine wn_add hx hb dL_law_540 ?_
  refine lr_s (L := L) hx hb hX hbl hZ (by omega) hL dL_law_541 ?_
  refine lv_aload_n hx hb dL_law_542 rfl (lv_at hl 5 rfl) ?_
  refine lv_iload hx hb dL_law_543 (lv_at hl 1 rfl) ?_
  refine lv_iconst (v := (nI 5)) hx hb dL_law_545 (by decide +kernel) ?_
  refine wn_add hx hb dL_law_546 ?_
  refine lr_s (L := L) hx hb hX hbl hZ (by omega) hL dL_law_547 ?_
  refine lr_m (post := (qm_lay M (xs (i + 1)) (xs (i + 2)) (xs (i + 3)) (xs (i + 4)) (xs (i + 5)))) (As := [.int (xs (i + 1)), .int (xs (i + 2)), .int (xs (i + 3)), .int (xs (i + 4)), .int (xs (i + 5))]) (rest := []) ⟨hx, hb, hml, hown, hts⟩ (k1_lay l E M (xs (i + 1)) (xs (i + 2)) (xs (i + 3)) (xs (i + 4)) (xs (i + 5)) hR.O) (cwV 5 hts gL_91 rfl rfl rfl hX1_lay ⟨Nat.le_of_ble_eq_true rfl, Nat.le_of_ble_eq_true rfl⟩) hW0 hZ rfl hl.1 rfl (Nat.le_of_ble_eq_true rfl) dL_law_548 ⟨by omega, by omega⟩ (fun bb M1 H locs hm hZ => ?_)
  refine lv_istore (lv' := [(6, .int bb), (5, .int v), (4, .int (nI i)), (3, .ref o), (2, .ref (mg_h E)), (1, .ref (kg_h G)), (0, .ref b)]) hx hb dL_law_551 hl (by decide) rfl (fun ls hl => ?_)
  have hq : lcQ lc_i u v bb M1 := by
    rcases hp with ⟨h1, d, h2, h3⟩ | ⟨hu, E9, hx9, hv⟩
    · obtain ⟨e1, rfl, e3⟩ := rl_lay_o hR h2 hm
      exact ⟨by rw [e1]; exact h1, e3, Or.inl ⟨h1, h3⟩⟩
    · exact lc_1 hu hv (rl_lay_x hR hx9 hm)
  obtain ⟨hv1, hR1, hq⟩ := hq
  refine lv_aload_n hx hb dL_law_553 rfl (lv_at hl 4 rfl) ?_
  refine lr_m (post := (fun (v : Int32) (S' : ms_T) => v = nI (ms_t M1) ∧ S' = M1)) (As := []) (rest := []) ⟨hx, hb, hml, hown, hts⟩ (k1_thrown l E M1) (cwV 0 hts gL_70 rfl rfl rfl hX1_thrown ⟨Nat.le_of_ble_eq_true rfl, Nat.le_of_ble_eq_true rfl⟩) hW0 hZ rfl hl.1 rfl (Nat.le_of_ble_eq_true rfl) dL_law_554 ⟨by omega, by omega⟩ (fun th M2 H locs ht hZ => ?_)
  obtain ⟨ht1, ht2⟩ := ht
  rw [ht2] at hZ
  have ht3 : th = v := ht1.trans hv1.symm
  refine lv_iload hx hb dL_law_557 (lv_at hl 1 rfl) ?_
  refine lv_icmp_eq (tgt := 564) hx hb dL_law_559 rfl (fun _ => ?_) (fun h9 => absurd ht3 h9)
  refine lv_iload hx hb dL_law_564 (lv_at hl 1 rfl) ?_
  rcases hq with ⟨hv0, ho9⟩ | ⟨k9, hk9, hv0⟩
  · have hz : v = 0 := by rw [hv0]; exact nI_0
    refine lv_if_ne (tgt := 581) hx hb dL_law_566 rfl (fun h9 => absurd hz h9) (fun _ => ?_)
    refine lv_aload_n hx hb dL_law_569 rfl (lv_at hl 3 rfl) ?_
    refine lv_iconst (v := (nI 0)) hx hb dL_law_570 (by decide +kernel) ?_
    refine va_lald hx hb hW0.2.2.1 hZ.2.2.2.2.1 0 0 rfl rfl (vp_in_nI (by omega) (by omega)) dL_law_571 ?_
    rw [nI_clamp (by omega), ho9]
    refine lv_iload hx hb dL_law_572 (lv_at hl 0 rfl) ?_
    refine lv_i2l (v := lc_i bb) hx hb dL_law_574 rfl ?_
    refine W.lcmp hx hb dL_law_575 ?_
    have e8 : lg_cmp (lc_i bb) (lc_i bb) = 0 := lg_cmp0 _
    refine lv_if_eq (tgt := 581) hx hb dL_law_576 rfl (fun _ => ?_) (fun h9 => absurd e8 h9)
    refine lv_goto (tgt := 1088) hx hb dL_law_581 rfl ?_
    have hl := lv_sub (l' := [(4, .int (nI i)), (3, .ref o), (2, .ref (mg_h E)), (1, .ref (kg_h G)), (0, .ref b)]) hl [2, 3, 4, 5, 6] rfl
    refine W.widen (k := cells + 3) (n := slots + 18) (by omega) (by omega) ?_
    exact hgo u.1 M1 u.2 _ _ _ hR1 hl hZ
  · have hnz : ¬ v = 0 := by
      rw [hv0]
      rcases hk9 with rfl | rfl <;> decide
    refine lv_if_ne (tgt := 581) hx hb dL_law_566 rfl (fun _ => ?_) (fun h9 => absurd h9 hnz)
    refine lv_goto (tgt := 1088) hx hb dL_law_581 rfl ?_
    have hl := lv_sub (l' := [(4, .int (nI i)), (3, .ref o), (2, .ref (mg_h E)), (1, .ref (kg_h G)), (0, .ref b)]) hl [2, 3, 4, 5, 6] rfl
    refine W.widen (k := cells + 3) (n := slots + 18) (by omega) (by omega) ?_
    exact hgo u.1 M1 u.2 _ _ _ hR1 hl hZ
set_option maxHeartbeats 4000000 in
set_option maxRecDepth 100000 in
theorem law_size {p : Program} {l : Launch} {e : Env} {s : State} {m : MethodId} {below : List Frame} {meth : Method} {c : Code} {b L : Nat} {xs : Nat → Int32} {G : kg_T} {E : mg_T} {o : Nat} {cJ : ClassId} (hB : lwB p l s m meth c b L xs G E o cJ) {i : Nat} (hi : i + 6 ≤ L) {S : ks_T} {M : ms_T} {f : Nat → Int64} {ls : Array Slot} {H : Heap} {locs : List Loc} {cells slots : Nat} (hR : rl S M) (hl : lv_has ls 7 [(4, .int (nI i)), (3, .ref o), (2, .ref (mg_h E)), (1, .ref (kg_h G)), (0, .ref b)]) (hZ : lz G E o cJ s.heap S M f H locs) (hcl : cells + 3 ≤ 601024) (hsl : slots + 18 ≤ 7293034) (hgo : ∀ (S1 : ks_T) (M1 : ms_T) (f1 : Nat → Int64) (ls1 : Array Slot) (H1 : Heap) (locs1 : List Loc), rl S1 M1 → lv_has ls1 7 [(4, .int (nI i)), (3, .ref o), (2, .ref (mg_h E)), (1, .ref (kg_h G)), (0, .ref b)] → lz G E o cJ s.heap S1 M1 f1 H1 locs1 → W p l e room_1 s m #[Value.ref b] below meth c H1 locs1 (cells + 3) (slots + 18) (lw_Z below #[Value.ref b] s) (F0 m 1088 ls1 [])) : W p l e room_1 s m #[Value.ref b] below meth c H locs cells slots (lw_Z below #[Value.ref b] s) (F0 m 584 ls []) := by
  obtain ⟨hx, hb, hr, hml, hown, hts, hX, hbl, hlk, hl0, hL, hW0⟩ := hB
  have hc9 : cells + 3 ≤ room_1.cells := hcl
  have hs9 : slots + 18 ≤ room_1.slots := hsl
  have hc0 : cells ≤ room_1.cells := by omega
  have hs0 : slots ≤ room_1.slots := by omega
  refine lv_aload_n hx hb dL_law_584 rfl (lv_at hl 3 rfl) ?_
  refine lv_aload_n hx hb dL_law_585 rfl (lv_at hl 4 rfl) ?_
  refine lv_iload hx hb dL_law_586 (lv_at hl 0 rfl) ?_
  refine lv_iconst (v := (nI 1)) hx hb dL_law_588 (by decide +kernel) ?_
  refine wn_add hx hb dL_law_589 ?_
  refine lr_s (L := L) hx hb hX hbl hZ (by omega) hL dL_law_590 ?_
  refine lv_aload_n hx hb dL_law_591 rfl (lv_at hl 4 rfl) ?_
  refine lv_iload hx hb dL_law_592 (lv_at hl 0 rfl) ?_
  refine lv_iconst (v := (nI 2)) hx hb dL_law_594 (by decide +kernel) ?_
  refine wn_add hx hb dL_law_595 ?_
  refine lr_s (L := L) hx hb hX hbl hZ (by omega) hL dL_law_596 ?_
  refine lv_aload_n hx hb dL_law_597 rfl (lv_at hl 1 rfl) ?_
  refine lr_w (hh := [(0, 10, 13, 21), (0, 10, 17, 13)]) (post := (fun (v : Int32) (u : ks_T × (Nat → Int64)) => (v = nI 0 ∧ ∃ b, qo_size S (xs (i + 1)) (xs (i + 2)) b u.1 ∧ u.2 0 = b.toInt64) ∨ (u.1 = S ∧ ∃ E, qx_size S (xs (i + 1)) (xs (i + 2)) E ∧ ((E = kx_nse ∧ v = nI 1) ∨ (E = kx_iae ∧ v = nI 2))))) (As := [.ref (kg_h G), .int (xs (i + 1)), .int (xs (i + 2)), .ref o]) (rest := []) ⟨hx, hb, hml, hown, hts⟩ (kL_size l hl0 G cJ o S f (xs (i + 1)) (xs (i + 2)) hR.hP hR.V) (vx_cwSW 4 hts gL_92 rfl rfl rfl hL_size.2 ⟨Nat.le_of_ble_eq_true rfl, Nat.le_of_ble_eq_true rfl⟩) hW0 hZ rfl hl.1 rfl (Nat.le_of_ble_eq_true rfl) dL_law_598 ⟨by omega, by omega⟩ (fun v u H locs hp hZ => ?_)
  refine lv_istore (lv' := [(5, .int v), (4, .int (nI i)), (3, .ref o), (2, .ref (mg_h E)), (1, .ref (kg_h G)), (0, .ref b)]) hx hb dL_law_601 hl (by decide) rfl (fun ls hl => ?_)
  refine lv_aload_n hx hb dL_law_603 rfl (lv_at hl 3 rfl) ?_
  refine lv_aload_n hx hb dL_law_604 rfl (lv_at hl 5 rfl) ?_
  refine lv_iload hx hb dL_law_605 (lv_at hl 1 rfl) ?_
  refine lv_iconst (v := (nI 1)) hx hb dL_law_607 (by decide +kernel) ?_
  refine wn_add hx hb dL_law_608 ?_
  refine lr_s (L := L) hx hb hX hbl hZ (by omega) hL dL_law_609 ?_
  refine lv_aload_n hx hb dL_law_610 rfl (lv_at hl 5 rfl) ?_
  refine lv_iload hx hb dL_law_611 (lv_at hl 1 rfl) ?_
  refine lv_iconst (v := (nI 2)) hx hb dL_law_613 (by decide +kernel) ?_
  refine wn_add hx hb dL_law_614 ?_
  refine lr_s (L := L) hx hb hX hbl hZ (by omega) hL dL_law_615 ?_
  refine lr_m (post := (qm_size M (xs (i + 1)) (xs (i + 2)))) (As := [.int (xs (i + 1)), .int (xs (i + 2))]) (rest := []) ⟨hx, hb, hml, hown, hts⟩ (k1_size l E M (xs (i + 1)) (xs (i + 2)) hR.O) (cwV 2 hts gL_95 rfl rfl rfl hX1_size ⟨Nat.le_of_ble_eq_true rfl, Nat.le_of_ble_eq_true rfl⟩) hW0 hZ rfl hl.1 rfl (Nat.le_of_ble_eq_true rfl) dL_law_616 ⟨by omega, by omega⟩ (fun bb M1 H locs hm hZ => ?_)
  refine lv_istore (lv' := [(6, .int bb), (5, .int v), (4, .int (nI i)), (3, .ref o), (2, .ref (mg_h E)), (1, .ref (kg_h G)), (0, .ref b)]) hx hb dL_law_619 hl (by decide) rfl (fun ls hl => ?_)
  have hq : lcQ lc_i u v bb M1 := by
    rcases hp with ⟨h1, d, h2, h3⟩ | ⟨hu, E9, hx9, hv⟩
    · obtain ⟨e1, rfl, e3⟩ := rl_size_o hR h2 hm
      exact ⟨by rw [e1]; exact h1, e3, Or.inl ⟨h1, h3⟩⟩
    · exact lc_2 (by decide) hu hv (rl_size_x hR hx9 hm)
  obtain ⟨hv1, hR1, hq⟩ := hq
  refine lv_aload_n hx hb dL_law_621 rfl (lv_at hl 4 rfl) ?_
  refine lr_m (post := (fun (v : Int32) (S' : ms_T) => v = nI (ms_t M1) ∧ S' = M1)) (As := []) (rest := []) ⟨hx, hb, hml, hown, hts⟩ (k1_thrown l E M1) (cwV 0 hts gL_70 rfl rfl rfl hX1_thrown ⟨Nat.le_of_ble_eq_true rfl, Nat.le_of_ble_eq_true rfl⟩) hW0 hZ rfl hl.1 rfl (Nat.le_of_ble_eq_true rfl) dL_law_622 ⟨by omega, by omega⟩ (fun th M2 H locs ht hZ => ?_)
  obtain ⟨ht1, ht2⟩ := ht
  rw [ht2] at hZ
  have ht3 : th = v := ht1.trans hv1.symm
  refine lv_iload hx hb dL_law_625 (lv_at hl 1 rfl) ?_
  refine lv_icmp_eq (tgt := 632) hx hb dL_law_627 rfl (fun _ => ?_) (fun h9 => absurd ht3 h9)
  refine lv_iload hx hb dL_law_632 (lv_at hl 1 rfl) ?_
  rcases hq with ⟨hv0, ho9⟩ | ⟨k9, hk9, hv0⟩
  · have hz : v = 0 := by rw [hv0]; exact nI_0
    refine lv_if_ne (tgt := 649) hx hb dL_law_634 rfl (fun h9 => absurd hz h9) (fun _ => ?_)
    refine lv_aload_n hx hb dL_law_637 rfl (lv_at hl 3 rfl) ?_
    refine lv_iconst (v := (nI 0)) hx hb dL_law_638 (by decide +kernel) ?_
    refine va_lald hx hb hW0.2.2.1 hZ.2.2.2.2.1 0 0 rfl rfl (vp_in_nI (by omega) (by omega)) dL_law_639 ?_
    rw [nI_clamp (by omega), ho9]
    refine lv_iload hx hb dL_law_640 (lv_at hl 0 rfl) ?_
    refine lv_i2l (v := lc_i bb) hx hb dL_law_642 rfl ?_
    refine W.lcmp hx hb dL_law_643 ?_
    have e8 : lg_cmp (lc_i bb) (lc_i bb) = 0 := lg_cmp0 _
    refine lv_if_eq (tgt := 649) hx hb dL_law_644 rfl (fun _ => ?_) (fun h9 => absurd e8 h9)
    refine lv_goto (tgt := 1088) hx hb dL_law_649 rfl ?_
    have hl := lv_sub (l' := [(4, .int (nI i)), (3, .ref o), (2, .ref (mg_h E)), (1, .ref (kg_h G)), (0, .ref b)]) hl [2, 3, 4, 5, 6] rfl
    refine W.widen (k := cells + 3) (n := slots + 18) (by omega) (by omega) ?_
    exact hgo u.1 M1 u.2 _ _ _ hR1 hl hZ
  · have hnz : ¬ v = 0 := by
      rw [hv0]
      rcases hk9 with rfl | rfl <;> decide
    refine lv_if_ne (tgt := 649) hx hb dL_law_634 rfl (fun _ => ?_) (fun h9 => absurd h9 hnz)
    refine lv_goto (tgt := 1088) hx hb dL_law_649 rfl ?_
    have hl := lv_sub (l' := [(4, .int (nI i)), (3, .ref o), (2, .ref (mg_h E)), (1, .ref (kg_h G)), (0, .ref b)]) hl [2, 3, 4, 5, 6] rfl
    refine W.widen (k := cells + 3) (n := slots + 18) (by omega) (by omega) ?_
    exact hgo u.1 M1 u.2 _ _ _ hR1 hl hZ
set_option maxHeartbeats 4000000 in
set_option maxRecDepth 100000 in
theorem law_blank {p : Program} {l : Launch} {e : Env} {s : State} {m : MethodId} {below : List Frame} {meth : Method} {c : Code} {b L : Nat} {xs : Nat → Int32} {G : kg_T} {E : mg_T} {o : Nat} {cJ : ClassId} (hB : lwB p l s m meth c b L xs G E o cJ) {i : Nat} (hi : i + 6 ≤ L) {S : ks_T} {M : ms_T} {f : Nat → Int64} {ls : Array Slot} {H : Heap} {locs : List Loc} {cells slots : Nat} (hR : rl S M) (hl : lv_has ls 7 [(4, .int (nI i)), (3, .ref o), (2, .ref (mg_h E)), (1, .ref (kg_h G)), (0, .ref b)]) (hZ : lz G E o cJ s.heap S M f H locs) (hcl : cells + 3 ≤ 601024) (hsl : slots + 18 ≤ 7293034) (hgo : ∀ (S1 : ks_T) (M1 : ms_T) (f1 : Nat → Int64) (ls1 : Array Slot) (H1 : Heap) (locs1 : List Loc), rl S1 M1 → lv_has ls1 7 [(4, .int (nI i)), (3, .ref o), (2, .ref (mg_h E)), (1, .ref (kg_h G)), (0, .ref b)] → lz G E o cJ s.heap S1 M1 f1 H1 locs1 → W p l e room_1 s m #[Value.ref b] below meth c H1 locs1 (cells + 3) (slots + 18) (lw_Z below #[Value.ref b] s) (F0 m 1088 ls1 [])) : W p l e room_1 s m #[Value.ref b] below meth c H locs cells slots (lw_Z below #[Value.ref b] s) (F0 m 652 ls []) := by
  obtain ⟨hx, hb, hr, hml, hown, hts, hX, hbl, hlk, hl0, hL, hW0⟩ := hB
  have hc9 : cells + 3 ≤ room_1.cells := hcl
  have hs9 : slots + 18 ≤ room_1.slots := hsl
  have hc0 : cells ≤ room_1.cells := by omega
  have hs0 : slots ≤ room_1.slots := by omega
  refine lv_aload_n hx hb dL_law_652 rfl (lv_at hl 3 rfl) ?_
  refine lv_aload_n hx hb dL_law_653 rfl (lv_at hl 4 rfl) ?_
  refine lv_iload hx hb dL_law_654 (lv_at hl 0 rfl) ?_
  refine lv_iconst (v := (nI 1)) hx hb dL_law_656 (by decide +kernel) ?_
  refine wn_add hx hb dL_law_657 ?_
  refine lr_s (L := L) hx hb hX hbl hZ (by omega) hL dL_law_658 ?_
  refine lv_aload_n hx hb dL_law_659 rfl (lv_at hl 4 rfl) ?_
  refine lv_iload hx hb dL_law_660 (lv_at hl 0 rfl) ?_
  refine lv_iconst (v := (nI 2)) hx hb dL_law_662 (by decide +kernel) ?_
  refine wn_add hx hb dL_law_663 ?_
  refine lr_s (L := L) hx hb hX hbl hZ (by omega) hL dL_law_664 ?_
  refine lv_aload_n hx hb dL_law_665 rfl (lv_at hl 1 rfl) ?_
  refine lr_w (hh := [(0, 17, 20, 21)]) (post := (fun (v : Int32) (u : ks_T × (Nat → Int64)) => (v = nI 0 ∧ ∃ b, qo_blank S (xs (i + 1)) (xs (i + 2)) b u.1 ∧ u.2 0 = (if b = 0 then 0 else 1)) ∨ (u.1 = S ∧ ∃ E, qx_blank S (xs (i + 1)) (xs (i + 2)) E ∧ ((E = kx_nse ∧ v = nI 1))))) (As := [.ref (kg_h G), .int (xs (i + 1)), .int (xs (i + 2)), .ref o]) (rest := []) ⟨hx, hb, hml, hown, hts⟩ (kL_blank l hl0 G cJ o S f (xs (i + 1)) (xs (i + 2)) hR.hP hR.V) (vx_cwSW 4 hts gL_96 rfl rfl rfl hL_blank.2 ⟨Nat.le_of_ble_eq_true rfl, Nat.le_of_ble_eq_true rfl⟩) hW0 hZ rfl hl.1 rfl (Nat.le_of_ble_eq_true rfl) dL_law_666 ⟨by omega, by omega⟩ (fun v u H locs hp hZ => ?_)
  refine lv_istore (lv' := [(5, .int v), (4, .int (nI i)), (3, .ref o), (2, .ref (mg_h E)), (1, .ref (kg_h G)), (0, .ref b)]) hx hb dL_law_669 hl (by decide) rfl (fun ls hl => ?_)
  refine lv_aload_n hx hb dL_law_671 rfl (lv_at hl 3 rfl) ?_
  refine lv_aload_n hx hb dL_law_672 rfl (lv_at hl 5 rfl) ?_
  refine lv_iload hx hb dL_law_673 (lv_at hl 1 rfl) ?_
  refine lv_iconst (v := (nI 1)) hx hb dL_law_675 (by decide +kernel) ?_
  refine wn_add hx hb dL_law_676 ?_
  refine lr_s (L := L) hx hb hX hbl hZ (by omega) hL dL_law_677 ?_
  refine lv_aload_n hx hb dL_law_678 rfl (lv_at hl 5 rfl) ?_
  refine lv_iload hx hb dL_law_679 (lv_at hl 1 rfl) ?_
  refine lv_iconst (v := (nI 2)) hx hb dL_law_681 (by decide +kernel) ?_
  refine wn_add hx hb dL_law_682 ?_
  refine lr_s (L := L) hx hb hX hbl hZ (by omega) hL dL_law_683 ?_
  refine lr_m (post := (qm_blank M (xs (i + 1)) (xs (i + 2)))) (As := [.int (xs (i + 1)), .int (xs (i + 2))]) (rest := []) ⟨hx, hb, hml, hown, hts⟩ (k1_blank l E M (xs (i + 1)) (xs (i + 2)) hR.O) (cwV 2 hts gL_98 rfl rfl rfl hX1_blank ⟨Nat.le_of_ble_eq_true rfl, Nat.le_of_ble_eq_true rfl⟩) hW0 hZ rfl hl.1 rfl (Nat.le_of_ble_eq_true rfl) dL_law_684 ⟨by omega, by omega⟩ (fun bb M1 H locs hm hZ => ?_)
  refine lv_istore (lv' := [(6, .int bb), (5, .int v), (4, .int (nI i)), (3, .ref o), (2, .ref (mg_h E)), (1, .ref (kg_h G)), (0, .ref b)]) hx hb dL_law_687 hl (by decide) rfl (fun ls hl => ?_)
  have hq : lcQ lc_z u v bb M1 := by
    rcases hp with ⟨h1, d, h2, h3⟩ | ⟨hu, E9, hx9, hv⟩
    · obtain ⟨e1, rfl, e3⟩ := rl_blank_o hR h2 hm
      exact ⟨by rw [e1]; exact h1, e3, Or.inl ⟨h1, h3⟩⟩
    · exact lc_1 hu hv (rl_blank_x hR hx9 hm)
  obtain ⟨hv1, hR1, hq⟩ := hq
  refine lv_aload_n hx hb dL_law_689 rfl (lv_at hl 4 rfl) ?_
  refine lr_m (post := (fun (v : Int32) (S' : ms_T) => v = nI (ms_t M1) ∧ S' = M1)) (As := []) (rest := []) ⟨hx, hb, hml, hown, hts⟩ (k1_thrown l E M1) (cwV 0 hts gL_70 rfl rfl rfl hX1_thrown ⟨Nat.le_of_ble_eq_true rfl, Nat.le_of_ble_eq_true rfl⟩) hW0 hZ rfl hl.1 rfl (Nat.le_of_ble_eq_true rfl) dL_law_690 ⟨by omega, by omega⟩ (fun th M2 H locs ht hZ => ?_)
  obtain ⟨ht1, ht2⟩ := ht
  rw [ht2] at hZ
  have ht3 : th = v := ht1.trans hv1.symm
  refine lv_iload hx hb dL_law_693 (lv_at hl 1 rfl) ?_
  refine lv_icmp_eq (tgt := 700) hx hb dL_law_695 rfl (fun _ => ?_) (fun h9 => absurd ht3 h9)
  refine lv_iload hx hb dL_law_700 (lv_at hl 1 rfl) ?_
  rcases hq with ⟨hv0, ho9⟩ | ⟨k9, hk9, hv0⟩
  · have hz : v = 0 := by rw [hv0]; exact nI_0
    refine lv_if_ne (tgt := 724) hx hb dL_law_702 rfl (fun h9 => absurd hz h9) (fun _ => ?_)
    refine lv_aload_n hx hb dL_law_705 rfl (lv_at hl 3 rfl) ?_
    refine lv_iconst (v := (nI 0)) hx hb dL_law_706 (by decide +kernel) ?_
    refine va_lald hx hb hW0.2.2.1 hZ.2.2.2.2.1 0 0 rfl rfl (vp_in_nI (by omega) (by omega)) dL_law_707 ?_
    rw [nI_clamp (by omega), ho9]
    refine lv_iload hx hb dL_law_708 (lv_at hl 0 rfl) ?_
    refine lv_if_eq (tgt := 717) hx hb dL_law_710 rfl (fun h3 => ?_) (fun h3 => ?_)
    · refine lv_lconst (v := 0) hx hb dL_law_717 rfl ?_
      refine W.lcmp hx hb dL_law_718 ?_
      have e8 : lg_cmp (lc_z bb) 0 = 0 := by unfold lc_z; rw [if_pos h3]; exact lg_cmp0 0
      refine lv_if_eq (tgt := 724) hx hb dL_law_719 rfl (fun _ => ?_) (fun h9 => absurd e8 h9)
      refine lv_goto (tgt := 1088) hx hb dL_law_724 rfl ?_
      have hl := lv_sub (l' := [(4, .int (nI i)), (3, .ref o), (2, .ref (mg_h E)), (1, .ref (kg_h G)), (0, .ref b)]) hl [2, 3, 4, 5, 6] rfl
      refine W.widen (k := cells + 3) (n := slots + 18) (by omega) (by omega) ?_
      exact hgo u.1 M1 u.2 _ _ _ hR1 hl hZ
    · refine lv_lconst (v := 1) hx hb dL_law_713 rfl ?_
      refine lv_goto (tgt := 718) hx hb dL_law_714 rfl ?_
      refine W.lcmp hx hb dL_law_718 ?_
      have e8 : lg_cmp (lc_z bb) 1 = 0 := by unfold lc_z; rw [if_neg h3]; exact lg_cmp0 1
      refine lv_if_eq (tgt := 724) hx hb dL_law_719 rfl (fun _ => ?_) (fun h9 => absurd e8 h9)
      refine lv_goto (tgt := 1088) hx hb dL_law_724 rfl ?_
      have hl := lv_sub (l' := [(4, .int (nI i)), (3, .ref o), (2, .ref (mg_h E)), (1, .ref (kg_h G)), (0, .ref b)]) hl [2, 3, 4, 5, 6] rfl
      refine W.widen (k := cells + 3) (n := slots + 18) (by omega) (by omega) ?_
      exact hgo u.1 M1 u.2 _ _ _ hR1 hl hZ
  · have hnz : ¬ v = 0 := by
      rw [hv0]
      rcases hk9 with rfl | rfl <;> decide
    refine lv_if_ne (tgt := 724) hx hb dL_law_702 rfl (fun _ => ?_) (fun h9 => absurd h9 hnz)
    refine lv_goto (tgt := 1088) hx hb dL_law_724 rfl ?_
    have hl := lv_sub (l' := [(4, .int (nI i)), (3, .ref o), (2, .ref (mg_h E)), (1, .ref (kg_h G)), (0, .ref b)]) hl [2, 3, 4, 5, 6] rfl
    refine W.widen (k := cells + 3) (n := slots + 18) (by omega) (by omega) ?_
    exact hgo u.1 M1 u.2 _ _ _ hR1 hl hZ
set_option maxHeartbeats 4000000 in
set_option maxRecDepth 100000 in
theorem law_own {p : Program} {l : Launch} {e : Env} {s : State} {m : MethodId} {below : List Frame} {meth : Method} {c : Code} {b L : Nat} {xs : Nat → Int32} {G : kg_T} {E : mg_T} {o : Nat} {cJ : ClassId} (hB : lwB p l s m meth c b L xs G E o cJ) {i : Nat} (hi : i + 6 ≤ L) {S : ks_T} {M : ms_T} {f : Nat → Int64} {ls : Array Slot} {H : Heap} {locs : List Loc} {cells slots : Nat} (hR : rl S M) (hl : lv_has ls 7 [(4, .int (nI i)), (3, .ref o), (2, .ref (mg_h E)), (1, .ref (kg_h G)), (0, .ref b)]) (hZ : lz G E o cJ s.heap S M f H locs) (hcl : cells + 3 ≤ 601024) (hsl : slots + 18 ≤ 7293034) (hgo : ∀ (S1 : ks_T) (M1 : ms_T) (f1 : Nat → Int64) (ls1 : Array Slot) (H1 : Heap) (locs1 : List Loc), rl S1 M1 → lv_has ls1 7 [(4, .int (nI i)), (3, .ref o), (2, .ref (mg_h E)), (1, .ref (kg_h G)), (0, .ref b)] → lz G E o cJ s.heap S1 M1 f1 H1 locs1 → W p l e room_1 s m #[Value.ref b] below meth c H1 locs1 (cells + 3) (slots + 18) (lw_Z below #[Value.ref b] s) (F0 m 1088 ls1 [])) : W p l e room_1 s m #[Value.ref b] below meth c H locs cells slots (lw_Z below #[Value.ref b] s) (F0 m 727 ls []) := by
  obtain ⟨hx, hb, hr, hml, hown, hts, hX, hbl, hlk, hl0, hL, hW0⟩ := hB
  have hc9 : cells + 3 ≤ room_1.cells := hcl
  have hs9 : slots + 18 ≤ room_1.slots := hsl
  have hc0 : cells ≤ room_1.cells := by omega
  have hs0 : slots ≤ room_1.slots := by omega
  refine lv_aload_n hx hb dL_law_727 rfl (lv_at hl 3 rfl) ?_
  refine lv_aload_n hx hb dL_law_728 rfl (lv_at hl 4 rfl) ?_
  refine lv_iload hx hb dL_law_729 (lv_at hl 0 rfl) ?_
  refine lv_iconst (v := (nI 1)) hx hb dL_law_731 (by decide +kernel) ?_
  refine wn_add hx hb dL_law_732 ?_
  refine lr_s (L := L) hx hb hX hbl hZ (by omega) hL dL_law_733 ?_
  refine lv_aload_n hx hb dL_law_734 rfl (lv_at hl 4 rfl) ?_
  refine lv_iload hx hb dL_law_735 (lv_at hl 0 rfl) ?_
  refine lv_iconst (v := (nI 2)) hx hb dL_law_737 (by decide +kernel) ?_
  refine wn_add hx hb dL_law_738 ?_
  refine lr_s (L := L) hx hb hX hbl hZ (by omega) hL dL_law_739 ?_
  refine lv_aload_n hx hb dL_law_740 rfl (lv_at hl 1 rfl) ?_
  refine lr_w (hh := [(0, 17, 20, 21), (0, 17, 24, 30)]) (post := (fun (v : Int32) (u : ks_T × (Nat → Int64)) => (v = nI 0 ∧ ∃ b, qo_own S (xs (i + 1)) (xs (i + 2)) b u.1 ∧ u.2 0 = (if b = 0 then 0 else 1)) ∨ (u.1 = S ∧ ∃ E, qx_own S (xs (i + 1)) (xs (i + 2)) E ∧ ((E = kx_nse ∧ v = nI 1) ∨ (E = kx_ae ∧ v = nI 2))))) (As := [.ref (kg_h G), .int (xs (i + 1)), .int (xs (i + 2)), .ref o]) (rest := []) ⟨hx, hb, hml, hown, hts⟩ (kL_own l hl0 G cJ o S f (xs (i + 1)) (xs (i + 2)) hR.hP hR.V) (vx_cwSW 4 hts gL_99 rfl rfl rfl hL_own.2 ⟨Nat.le_of_ble_eq_true rfl, Nat.le_of_ble_eq_true rfl⟩) hW0 hZ rfl hl.1 rfl (Nat.le_of_ble_eq_true rfl) dL_law_741 ⟨by omega, by omega⟩ (fun v u H locs hp hZ => ?_)
  refine lv_istore (lv' := [(5, .int v), (4, .int (nI i)), (3, .ref o), (2, .ref (mg_h E)), (1, .ref (kg_h G)), (0, .ref b)]) hx hb dL_law_744 hl (by decide) rfl (fun ls hl => ?_)
  refine lv_aload_n hx hb dL_law_746 rfl (lv_at hl 3 rfl) ?_
  refine lv_aload_n hx hb dL_law_747 rfl (lv_at hl 5 rfl) ?_
  refine lv_iload hx hb dL_law_748 (lv_at hl 1 rfl) ?_
  refine lv_iconst (v := (nI 1)) hx hb dL_law_750 (by decide +kernel) ?_
  refine wn_add hx hb dL_law_751 ?_
  refine lr_s (L := L) hx hb hX hbl hZ (by omega) hL dL_law_752 ?_
  refine lv_aload_n hx hb dL_law_753 rfl (lv_at hl 5 rfl) ?_
  refine lv_iload hx hb dL_law_754 (lv_at hl 1 rfl) ?_
  refine lv_iconst (v := (nI 2)) hx hb dL_law_756 (by decide +kernel) ?_
  refine wn_add hx hb dL_law_757 ?_
  refine lr_s (L := L) hx hb hX hbl hZ (by omega) hL dL_law_758 ?_
  refine lr_m (post := (qm_own M (xs (i + 1)) (xs (i + 2)))) (As := [.int (xs (i + 1)), .int (xs (i + 2))]) (rest := []) ⟨hx, hb, hml, hown, hts⟩ (k1_own l E M (xs (i + 1)) (xs (i + 2)) hR.O) (cwV 2 hts gL_101 rfl rfl rfl hX1_own ⟨Nat.le_of_ble_eq_true rfl, Nat.le_of_ble_eq_true rfl⟩) hW0 hZ rfl hl.1 rfl (Nat.le_of_ble_eq_true rfl) dL_law_759 ⟨by omega, by omega⟩ (fun bb M1 H locs hm hZ => ?_)
  refine lv_istore (lv' := [(6, .int bb), (5, .int v), (4, .int (nI i)), (3, .ref o), (2, .ref (mg_h E)), (1, .ref (kg_h G)), (0, .ref b)]) hx hb dL_law_762 hl (by decide) rfl (fun ls hl => ?_)
  have hq : lcQ lc_z u v bb M1 := by
    rcases hp with ⟨h1, d, h2, h3⟩ | ⟨hu, E9, hx9, hv⟩
    · obtain ⟨e1, rfl, e3⟩ := rl_own_o hR h2 hm
      exact ⟨by rw [e1]; exact h1, e3, Or.inl ⟨h1, h3⟩⟩
    · exact lc_2 (by decide) hu hv (rl_own_x hR hx9 hm)
  obtain ⟨hv1, hR1, hq⟩ := hq
  refine lv_aload_n hx hb dL_law_764 rfl (lv_at hl 4 rfl) ?_
  refine lr_m (post := (fun (v : Int32) (S' : ms_T) => v = nI (ms_t M1) ∧ S' = M1)) (As := []) (rest := []) ⟨hx, hb, hml, hown, hts⟩ (k1_thrown l E M1) (cwV 0 hts gL_70 rfl rfl rfl hX1_thrown ⟨Nat.le_of_ble_eq_true rfl, Nat.le_of_ble_eq_true rfl⟩) hW0 hZ rfl hl.1 rfl (Nat.le_of_ble_eq_true rfl) dL_law_765 ⟨by omega, by omega⟩ (fun th M2 H locs ht hZ => ?_)
  obtain ⟨ht1, ht2⟩ := ht
  rw [ht2] at hZ
  have ht3 : th = v := ht1.trans hv1.symm
  refine lv_iload hx hb dL_law_768 (lv_at hl 1 rfl) ?_
  refine lv_icmp_eq (tgt := 775) hx hb dL_law_770 rfl (fun _ => ?_) (fun h9 => absurd ht3 h9)
  refine lv_iload hx hb dL_law_775 (lv_at hl 1 rfl) ?_
  rcases hq with ⟨hv0, ho9⟩ | ⟨k9, hk9, hv0⟩
  · have hz : v = 0 := by rw [hv0]; exact nI_0
    refine lv_if_ne (tgt := 799) hx hb dL_law_777 rfl (fun h9 => absurd hz h9) (fun _ => ?_)
    refine lv_aload_n hx hb dL_law_780 rfl (lv_at hl 3 rfl) ?_
    refine lv_iconst (v := (nI 0)) hx hb dL_law_781 (by decide +kernel) ?_
    refine va_lald hx hb hW0.2.2.1 hZ.2.2.2.2.1 0 0 rfl rfl (vp_in_nI (by omega) (by omega)) dL_law_782 ?_
    rw [nI_clamp (by omega), ho9]
    refine lv_iload hx hb dL_law_783 (lv_at hl 0 rfl) ?_
    refine lv_if_eq (tgt := 792) hx hb dL_law_785 rfl (fun h3 => ?_) (fun h3 => ?_)
    · refine lv_lconst (v := 0) hx hb dL_law_792 rfl ?_
      refine W.lcmp hx hb dL_law_793 ?_
      have e8 : lg_cmp (lc_z bb) 0 = 0 := by unfold lc_z; rw [if_pos h3]; exact lg_cmp0 0
      refine lv_if_eq (tgt := 799) hx hb dL_law_794 rfl (fun _ => ?_) (fun h9 => absurd e8 h9)
      refine lv_goto (tgt := 1088) hx hb dL_law_799 rfl ?_
      have hl := lv_sub (l' := [(4, .int (nI i)), (3, .ref o), (2, .ref (mg_h E)), (1, .ref (kg_h G)), (0, .ref b)]) hl [2, 3, 4, 5, 6] rfl
      refine W.widen (k := cells + 3) (n := slots + 18) (by omega) (by omega) ?_
      exact hgo u.1 M1 u.2 _ _ _ hR1 hl hZ
    · refine lv_lconst (v := 1) hx hb dL_law_788 rfl ?_
      refine lv_goto (tgt := 793) hx hb dL_law_789 rfl ?_
      refine W.lcmp hx hb dL_law_793 ?_
      have e8 : lg_cmp (lc_z bb) 1 = 0 := by unfold lc_z; rw [if_neg h3]; exact lg_cmp0 1
      refine lv_if_eq (tgt := 799) hx hb dL_law_794 rfl (fun _ => ?_) (fun h9 => absurd e8 h9)
      refine lv_goto (tgt := 1088) hx hb dL_law_799 rfl ?_
      have hl := lv_sub (l' := [(4, .int (nI i)), (3, .ref o), (2, .ref (mg_h E)), (1, .ref (kg_h G)), (0, .ref b)]) hl [2, 3, 4, 5, 6] rfl
      refine W.widen (k := cells + 3) (n := slots + 18) (by omega) (by omega) ?_
      exact hgo u.1 M1 u.2 _ _ _ hR1 hl hZ
  · have hnz : ¬ v = 0 := by
      rw [hv0]
      rcases hk9 with rfl | rfl <;> decide
    refine lv_if_ne (tgt := 799) hx hb dL_law_777 rfl (fun _ => ?_) (fun h9 => absurd h9 hnz)
    refine lv_goto (tgt := 1088) hx hb dL_law_799 rfl ?_
    have hl := lv_sub (l' := [(4, .int (nI i)), (3, .ref o), (2, .ref (mg_h E)), (1, .ref (kg_h G)), (0, .ref b)]) hl [2, 3, 4, 5, 6] rfl
    refine W.widen (k := cells + 3) (n := slots + 18) (by omega) (by omega) ?_
    exact hgo u.1 M1 u.2 _ _ _ hR1 hl hZ
set_option maxHeartbeats 4000000 in
set_option maxRecDepth 100000 in
theorem law_sweep {p : Program} {l : Launch} {e : Env} {s : State} {m : MethodId} {below : List Frame} {meth : Method} {c : Code} {b L : Nat} {xs : Nat → Int32} {G : kg_T} {E : mg_T} {o : Nat} {cJ : ClassId} (hB : lwB p l s m meth c b L xs G E o cJ) {i : Nat} (hi : i + 6 ≤ L) {S : ks_T} {M : ms_T} {f : Nat → Int64} {ls : Array Slot} {H : Heap} {locs : List Loc} {cells slots : Nat} (hR : rl S M) (hl : lv_has ls 7 [(4, .int (nI i)), (3, .ref o), (2, .ref (mg_h E)), (1, .ref (kg_h G)), (0, .ref b)]) (hZ : lz G E o cJ s.heap S M f H locs) (hcl : cells + 3 ≤ 601024) (hsl : slots + 18 ≤ 7293034) (hgo : ∀ (S1 : ks_T) (M1 : ms_T) (f1 : Nat → Int64) (ls1 : Array Slot) (H1 : Heap) (locs1 : List Loc), rl S1 M1 → lv_has ls1 7 [(4, .int (nI i)), (3, .ref o), (2, .ref (mg_h E)), (1, .ref (kg_h G)), (0, .ref b)] → lz G E o cJ s.heap S1 M1 f1 H1 locs1 → W p l e room_1 s m #[Value.ref b] below meth c H1 locs1 (cells + 3) (slots + 18) (lw_Z below #[Value.ref b] s) (F0 m 1088 ls1 [])) : W p l e room_1 s m #[Value.ref b] below meth c H locs cells slots (lw_Z below #[Value.ref b] s) (F0 m 802 ls []) := by
  obtain ⟨hx, hb, hr, hml, hown, hts, hX, hbl, hlk, hl0, hL, hW0⟩ := hB
  have hc9 : cells + 3 ≤ room_1.cells := hcl
  have hs9 : slots + 18 ≤ room_1.slots := hsl
  have hc0 : cells ≤ room_1.cells := by omega
  have hs0 : slots ≤ room_1.slots := by omega
  refine lv_aload_n hx hb dL_law_802 rfl (lv_at hl 3 rfl) ?_
  refine lr_c (post := qo_sweep S ) (As := []) (rest := []) ⟨hx, hb, hml, hown, hts⟩ (k0_sweep l G S  hR.hP hR.V) (cwV 0 hts gL_102 rfl rfl rfl hX0_sweep ⟨Nat.le_of_ble_eq_true rfl, Nat.le_of_ble_eq_true rfl⟩) hW0 hZ rfl hl.1 rfl (Nat.le_of_ble_eq_true rfl) dL_law_803 ⟨by omega, by omega⟩ (fun v S1 H locs hp hZ => ?_)
  refine lv_aload_n hx hb dL_law_806 rfl (lv_at hl 2 rfl) ?_
  refine lr_m (post := (qm_sweep M )) (As := []) (rest := [.int v]) ⟨hx, hb, hml, hown, hts⟩ (k1_sweep l E M  hR.O) (cwV 0 hts gL_105 rfl rfl rfl hX1_sweep ⟨Nat.le_of_ble_eq_true rfl, Nat.le_of_ble_eq_true rfl⟩) hW0 hZ rfl hl.1 rfl (Nat.le_of_ble_eq_true rfl) dL_law_807 ⟨by omega, by omega⟩ (fun bb M1 H locs hm hZ => ?_)
  obtain ⟨hvb, hR1⟩ := rl_sweep hR hp hm
  refine lv_icmp_eq (tgt := 1088) hx hb dL_law_810 rfl (fun _ => ?_) (fun h9 => absurd hvb h9)
  refine W.widen (k := cells + 3) (n := slots + 18) (by omega) (by omega) ?_
  exact hgo S1 M1 f _ _ _ hR1 hl hZ
set_option maxHeartbeats 4000000 in
set_option maxRecDepth 100000 in
theorem law_merge {p : Program} {l : Launch} {e : Env} {s : State} {m : MethodId} {below : List Frame} {meth : Method} {c : Code} {b L : Nat} {xs : Nat → Int32} {G : kg_T} {E : mg_T} {o : Nat} {cJ : ClassId} (hB : lwB p l s m meth c b L xs G E o cJ) {i : Nat} (hi : i + 6 ≤ L) {S : ks_T} {M : ms_T} {f : Nat → Int64} {ls : Array Slot} {H : Heap} {locs : List Loc} {cells slots : Nat} (hR : rl S M) (hl : lv_has ls 7 [(4, .int (nI i)), (3, .ref o), (2, .ref (mg_h E)), (1, .ref (kg_h G)), (0, .ref b)]) (hZ : lz G E o cJ s.heap S M f H locs) (hcl : cells + 3 ≤ 601024) (hsl : slots + 18 ≤ 7293034) (hgo : ∀ (S1 : ks_T) (M1 : ms_T) (f1 : Nat → Int64) (ls1 : Array Slot) (H1 : Heap) (locs1 : List Loc), rl S1 M1 → lv_has ls1 7 [(4, .int (nI i)), (3, .ref o), (2, .ref (mg_h E)), (1, .ref (kg_h G)), (0, .ref b)] → lz G E o cJ s.heap S1 M1 f1 H1 locs1 → W p l e room_1 s m #[Value.ref b] below meth c H1 locs1 (cells + 3) (slots + 18) (lw_Z below #[Value.ref b] s) (F0 m 1088 ls1 [])) : W p l e room_1 s m #[Value.ref b] below meth c H locs cells slots (lw_Z below #[Value.ref b] s) (F0 m 815 ls []) := by
  obtain ⟨hx, hb, hr, hml, hown, hts, hX, hbl, hlk, hl0, hL, hW0⟩ := hB
  have hc9 : cells + 3 ≤ room_1.cells := hcl
  have hs9 : slots + 18 ≤ room_1.slots := hsl
  have hc0 : cells ≤ room_1.cells := by omega
  have hs0 : slots ≤ room_1.slots := by omega
  refine lv_aload_n hx hb dL_law_815 rfl (lv_at hl 3 rfl) ?_
  refine lr_c (post := qo_merge S ) (As := []) (rest := []) ⟨hx, hb, hml, hown, hts⟩ (k0_merge l G S  hR.hP hR.V) (cwV 0 hts gL_106 rfl rfl rfl hX0_merge ⟨Nat.le_of_ble_eq_true rfl, Nat.le_of_ble_eq_true rfl⟩) hW0 hZ rfl hl.1 rfl (Nat.le_of_ble_eq_true rfl) dL_law_816 ⟨by omega, by omega⟩ (fun v S1 H locs hp hZ => ?_)
  refine lv_aload_n hx hb dL_law_819 rfl (lv_at hl 2 rfl) ?_
  refine lr_m (post := (qm_merge M )) (As := []) (rest := [.int v]) ⟨hx, hb, hml, hown, hts⟩ (k1_merge l E M  hR.O) (cwV 0 hts gL_109 rfl rfl rfl hX1_merge ⟨Nat.le_of_ble_eq_true rfl, Nat.le_of_ble_eq_true rfl⟩) hW0 hZ rfl hl.1 rfl (Nat.le_of_ble_eq_true rfl) dL_law_820 ⟨by omega, by omega⟩ (fun bb M1 H locs hm hZ => ?_)
  obtain ⟨hvb, hR1⟩ := rl_merge hR hp hm
  refine lv_icmp_eq (tgt := 1088) hx hb dL_law_823 rfl (fun _ => ?_) (fun h9 => absurd hvb h9)
  refine W.widen (k := cells + 3) (n := slots + 18) (by omega) (by omega) ?_
  exact hgo S1 M1 f _ _ _ hR1 hl hZ
set_option maxHeartbeats 4000000 in
set_option maxRecDepth 100000 in
theorem law_common {p : Program} {l : Launch} {e : Env} {s : State} {m : MethodId} {below : List Frame} {meth : Method} {c : Code} {b L : Nat} {xs : Nat → Int32} {G : kg_T} {E : mg_T} {o : Nat} {cJ : ClassId} (hB : lwB p l s m meth c b L xs G E o cJ) {i : Nat} (hi : i + 6 ≤ L) {S : ks_T} {M : ms_T} {f : Nat → Int64} {ls : Array Slot} {H : Heap} {locs : List Loc} {cells slots : Nat} (hR : rl S M) (hl : lv_has ls 7 [(4, .int (nI i)), (3, .ref o), (2, .ref (mg_h E)), (1, .ref (kg_h G)), (0, .ref b)]) (hZ : lz G E o cJ s.heap S M f H locs) (hcl : cells + 3 ≤ 601024) (hsl : slots + 18 ≤ 7293034) (hgo : ∀ (S1 : ks_T) (M1 : ms_T) (f1 : Nat → Int64) (ls1 : Array Slot) (H1 : Heap) (locs1 : List Loc), rl S1 M1 → lv_has ls1 7 [(4, .int (nI i)), (3, .ref o), (2, .ref (mg_h E)), (1, .ref (kg_h G)), (0, .ref b)] → lz G E o cJ s.heap S1 M1 f1 H1 locs1 → W p l e room_1 s m #[Value.ref b] below meth c H1 locs1 (cells + 3) (slots + 18) (lw_Z below #[Value.ref b] s) (F0 m 1088 ls1 [])) : W p l e room_1 s m #[Value.ref b] below meth c H locs cells slots (lw_Z below #[Value.ref b] s) (F0 m 828 ls []) := by
  obtain ⟨hx, hb, hr, hml, hown, hts, hX, hbl, hlk, hl0, hL, hW0⟩ := hB
  have hc9 : cells + 3 ≤ room_1.cells := hcl
  have hs9 : slots + 18 ≤ room_1.slots := hsl
  have hc0 : cells ≤ room_1.cells := by omega
  have hs0 : slots ≤ room_1.slots := by omega
  refine lv_aload_n hx hb dL_law_828 rfl (lv_at hl 3 rfl) ?_
  refine lv_aload_n hx hb dL_law_829 rfl (lv_at hl 4 rfl) ?_
  refine lv_iload hx hb dL_law_830 (lv_at hl 0 rfl) ?_
  refine lv_iconst (v := (nI 1)) hx hb dL_law_832 (by decide +kernel) ?_
  refine wn_add hx hb dL_law_833 ?_
  refine lr_s (L := L) hx hb hX hbl hZ (by omega) hL dL_law_834 ?_
  refine lv_aload_n hx hb dL_law_835 rfl (lv_at hl 4 rfl) ?_
  refine lv_iload hx hb dL_law_836 (lv_at hl 0 rfl) ?_
  refine lv_iconst (v := (nI 2)) hx hb dL_law_838 (by decide +kernel) ?_
  refine wn_add hx hb dL_law_839 ?_
  refine lr_s (L := L) hx hb hX hbl hZ (by omega) hL dL_law_840 ?_
  refine lv_aload_n hx hb dL_law_841 rfl (lv_at hl 4 rfl) ?_
  refine lv_iload hx hb dL_law_842 (lv_at hl 0 rfl) ?_
  refine lv_iconst (v := (nI 3)) hx hb dL_law_844 (by decide +kernel) ?_
  refine wn_add hx hb dL_law_845 ?_
  refine lr_s (L := L) hx hb hX hbl hZ (by omega) hL dL_law_846 ?_
  refine lv_aload_n hx hb dL_law_847 rfl (lv_at hl 4 rfl) ?_
  refine lv_iload hx hb dL_law_848 (lv_at hl 0 rfl) ?_
  refine lv_iconst (v := (nI 4)) hx hb dL_law_850 (by decide +kernel) ?_
  refine wn_add hx hb dL_law_851 ?_
  refine lr_s (L := L) hx hb hX hbl hZ (by omega) hL dL_law_852 ?_
  refine lv_aload_n hx hb dL_law_853 rfl (lv_at hl 1 rfl) ?_
  refine lr_w (hh := [(0, 21, 24, 21)]) (post := (fun (v : Int32) (u : ks_T × (Nat → Int64)) => (v = nI 0 ∧ ∃ b, qo_common S (xs (i + 1)) (xs (i + 2)) (xs (i + 3)) (xs (i + 4)) b u.1 ∧ u.2 0 = (if b = 0 then 0 else 1)) ∨ (u.1 = S ∧ ∃ E, qx_common S (xs (i + 1)) (xs (i + 2)) (xs (i + 3)) (xs (i + 4)) E ∧ ((E = kx_nse ∧ v = nI 1))))) (As := [.ref (kg_h G), .int (xs (i + 1)), .int (xs (i + 2)), .int (xs (i + 3)), .int (xs (i + 4)), .ref o]) (rest := []) ⟨hx, hb, hml, hown, hts⟩ (kL_common l hl0 G cJ o S f (xs (i + 1)) (xs (i + 2)) (xs (i + 3)) (xs (i + 4)) hR.hP hR.V) (vx_cwSW 6 hts gL_110 rfl rfl rfl hL_common.2 ⟨Nat.le_of_ble_eq_true rfl, Nat.le_of_ble_eq_true rfl⟩) hW0 hZ rfl hl.1 rfl (Nat.le_of_ble_eq_true rfl) dL_law_854 ⟨by omega, by omega⟩ (fun v u H locs hp hZ => ?_)
  refine lv_istore (lv' := [(5, .int v), (4, .int (nI i)), (3, .ref o), (2, .ref (mg_h E)), (1, .ref (kg_h G)), (0, .ref b)]) hx hb dL_law_857 hl (by decide) rfl (fun ls hl => ?_)
  refine lv_aload_n hx hb dL_law_859 rfl (lv_at hl 3 rfl) ?_
  refine lv_aload_n hx hb dL_law_860 rfl (lv_at hl 5 rfl) ?_
  refine lv_iload hx hb dL_law_861 (lv_at hl 1 rfl) ?_
  refine lv_iconst (v := (nI 1)) hx hb dL_law_863 (by decide +kernel) ?_
  refine wn_add hx hb dL_law_864 ?_
  refine lr_s (L := L) hx hb hX hbl hZ (by omega) hL dL_law_865 ?_
  refine lv_aload_n hx hb dL_law_866 rfl (lv_at hl 5 rfl) ?_
  refine lv_iload hx hb dL_law_867 (lv_at hl 1 rfl) ?_
  refine lv_iconst (v := (nI 2)) hx hb dL_law_869 (by decide +kernel) ?_
  refine wn_add hx hb dL_law_870 ?_
  refine lr_s (L := L) hx hb hX hbl hZ (by omega) hL dL_law_871 ?_
  refine lv_aload_n hx hb dL_law_872 rfl (lv_at hl 5 rfl) ?_
  refine lv_iload hx hb dL_law_873 (lv_at hl 1 rfl) ?_
  refine lv_iconst (v := (nI 3)) hx hb dL_law_875 (by decide +kernel) ?_
  refine wn_add hx hb dL_law_876 ?_
  refine lr_s (L := L) hx hb hX hbl hZ (by omega) hL dL_law_877 ?_
  refine lv_aload_n hx hb dL_law_878 rfl (lv_at hl 5 rfl) ?_
  refine lv_iload hx hb dL_law_879 (lv_at hl 1 rfl) ?_
  refine lv_iconst (v := (nI 4)) hx hb dL_law_881 (by decide +kernel) ?_
  refine wn_add hx hb dL_law_882 ?_
  refine lr_s (L := L) hx hb hX hbl hZ (by omega) hL dL_law_883 ?_
  refine lr_m (post := (qm_common M (xs (i + 1)) (xs (i + 2)) (xs (i + 3)) (xs (i + 4)))) (As := [.int (xs (i + 1)), .int (xs (i + 2)), .int (xs (i + 3)), .int (xs (i + 4))]) (rest := []) ⟨hx, hb, hml, hown, hts⟩ (k1_common l E M (xs (i + 1)) (xs (i + 2)) (xs (i + 3)) (xs (i + 4)) hR.O) (cwV 4 hts gL_112 rfl rfl rfl hX1_common ⟨Nat.le_of_ble_eq_true rfl, Nat.le_of_ble_eq_true rfl⟩) hW0 hZ rfl hl.1 rfl (Nat.le_of_ble_eq_true rfl) dL_law_884 ⟨by omega, by omega⟩ (fun bb M1 H locs hm hZ => ?_)
  refine lv_istore (lv' := [(6, .int bb), (5, .int v), (4, .int (nI i)), (3, .ref o), (2, .ref (mg_h E)), (1, .ref (kg_h G)), (0, .ref b)]) hx hb dL_law_887 hl (by decide) rfl (fun ls hl => ?_)
  have hq : lcQ lc_z u v bb M1 := by
    rcases hp with ⟨h1, d, h2, h3⟩ | ⟨hu, E9, hx9, hv⟩
    · obtain ⟨e1, rfl, e3⟩ := rl_common_o hR h2 hm
      exact ⟨by rw [e1]; exact h1, e3, Or.inl ⟨h1, h3⟩⟩
    · exact lc_1 hu hv (rl_common_x hR hx9 hm)
  obtain ⟨hv1, hR1, hq⟩ := hq
  refine lv_aload_n hx hb dL_law_889 rfl (lv_at hl 4 rfl) ?_
  refine lr_m (post := (fun (v : Int32) (S' : ms_T) => v = nI (ms_t M1) ∧ S' = M1)) (As := []) (rest := []) ⟨hx, hb, hml, hown, hts⟩ (k1_thrown l E M1) (cwV 0 hts gL_70 rfl rfl rfl hX1_thrown ⟨Nat.le_of_ble_eq_true rfl, Nat.le_of_ble_eq_true rfl⟩) hW0 hZ rfl hl.1 rfl (Nat.le_of_ble_eq_true rfl) dL_law_890 ⟨by omega, by omega⟩ (fun th M2 H locs ht hZ => ?_)
  obtain ⟨ht1, ht2⟩ := ht
  rw [ht2] at hZ
  have ht3 : th = v := ht1.trans hv1.symm
  refine lv_iload hx hb dL_law_893 (lv_at hl 1 rfl) ?_
  refine lv_icmp_eq (tgt := 900) hx hb dL_law_895 rfl (fun _ => ?_) (fun h9 => absurd ht3 h9)
  refine lv_iload hx hb dL_law_900 (lv_at hl 1 rfl) ?_
  rcases hq with ⟨hv0, ho9⟩ | ⟨k9, hk9, hv0⟩
  · have hz : v = 0 := by rw [hv0]; exact nI_0
    refine lv_if_ne (tgt := 924) hx hb dL_law_902 rfl (fun h9 => absurd hz h9) (fun _ => ?_)
    refine lv_aload_n hx hb dL_law_905 rfl (lv_at hl 3 rfl) ?_
    refine lv_iconst (v := (nI 0)) hx hb dL_law_906 (by decide +kernel) ?_
    refine va_lald hx hb hW0.2.2.1 hZ.2.2.2.2.1 0 0 rfl rfl (vp_in_nI (by omega) (by omega)) dL_law_907 ?_
    rw [nI_clamp (by omega), ho9]
    refine lv_iload hx hb dL_law_908 (lv_at hl 0 rfl) ?_
    refine lv_if_eq (tgt := 917) hx hb dL_law_910 rfl (fun h3 => ?_) (fun h3 => ?_)
    · refine lv_lconst (v := 0) hx hb dL_law_917 rfl ?_
      refine W.lcmp hx hb dL_law_918 ?_
      have e8 : lg_cmp (lc_z bb) 0 = 0 := by unfold lc_z; rw [if_pos h3]; exact lg_cmp0 0
      refine lv_if_eq (tgt := 924) hx hb dL_law_919 rfl (fun _ => ?_) (fun h9 => absurd e8 h9)
      refine lv_goto (tgt := 1088) hx hb dL_law_924 rfl ?_
      have hl := lv_sub (l' := [(4, .int (nI i)), (3, .ref o), (2, .ref (mg_h E)), (1, .ref (kg_h G)), (0, .ref b)]) hl [2, 3, 4, 5, 6] rfl
      refine W.widen (k := cells + 3) (n := slots + 18) (by omega) (by omega) ?_
      exact hgo u.1 M1 u.2 _ _ _ hR1 hl hZ
    · refine lv_lconst (v := 1) hx hb dL_law_913 rfl ?_
      refine lv_goto (tgt := 918) hx hb dL_law_914 rfl ?_
      refine W.lcmp hx hb dL_law_918 ?_
      have e8 : lg_cmp (lc_z bb) 1 = 0 := by unfold lc_z; rw [if_neg h3]; exact lg_cmp0 1
      refine lv_if_eq (tgt := 924) hx hb dL_law_919 rfl (fun _ => ?_) (fun h9 => absurd e8 h9)
      refine lv_goto (tgt := 1088) hx hb dL_law_924 rfl ?_
      have hl := lv_sub (l' := [(4, .int (nI i)), (3, .ref o), (2, .ref (mg_h E)), (1, .ref (kg_h G)), (0, .ref b)]) hl [2, 3, 4, 5, 6] rfl
      refine W.widen (k := cells + 3) (n := slots + 18) (by omega) (by omega) ?_
      exact hgo u.1 M1 u.2 _ _ _ hR1 hl hZ
  · have hnz : ¬ v = 0 := by
      rw [hv0]
      rcases hk9 with rfl | rfl <;> decide
    refine lv_if_ne (tgt := 924) hx hb dL_law_902 rfl (fun _ => ?_) (fun h9 => absurd h9 hnz)
    refine lv_goto (tgt := 1088) hx hb dL_law_924 rfl ?_
    have hl := lv_sub (l' := [(4, .int (nI i)), (3, .ref o), (2, .ref (mg_h E)), (1, .ref (kg_h G)), (0, .ref b)]) hl [2, 3, 4, 5, 6] rfl
    refine W.widen (k := cells + 3) (n := slots + 18) (by omega) (by omega) ?_
    exact hgo u.1 M1 u.2 _ _ _ hR1 hl hZ
set_option maxHeartbeats 4000000 in
set_option maxRecDepth 100000 in
theorem law_holders {p : Program} {l : Launch} {e : Env} {s : State} {m : MethodId} {below : List Frame} {meth : Method} {c : Code} {b L : Nat} {xs : Nat → Int32} {G : kg_T} {E : mg_T} {o : Nat} {cJ : ClassId} (hB : lwB p l s m meth c b L xs G E o cJ) {i : Nat} (hi : i + 6 ≤ L) {S : ks_T} {M : ms_T} {f : Nat → Int64} {ls : Array Slot} {H : Heap} {locs : List Loc} {cells slots : Nat} (hR : rl S M) (hl : lv_has ls 7 [(4, .int (nI i)), (3, .ref o), (2, .ref (mg_h E)), (1, .ref (kg_h G)), (0, .ref b)]) (hZ : lz G E o cJ s.heap S M f H locs) (hcl : cells + 3 ≤ 601024) (hsl : slots + 18 ≤ 7293034) (hgo : ∀ (S1 : ks_T) (M1 : ms_T) (f1 : Nat → Int64) (ls1 : Array Slot) (H1 : Heap) (locs1 : List Loc), rl S1 M1 → lv_has ls1 7 [(4, .int (nI i)), (3, .ref o), (2, .ref (mg_h E)), (1, .ref (kg_h G)), (0, .ref b)] → lz G E o cJ s.heap S1 M1 f1 H1 locs1 → W p l e room_1 s m #[Value.ref b] below meth c H1 locs1 (cells + 3) (slots + 18) (lw_Z below #[Value.ref b] s) (F0 m 1088 ls1 [])) : W p l e room_1 s m #[Value.ref b] below meth c H locs cells slots (lw_Z below #[Value.ref b] s) (F0 m 927 ls []) := by
  obtain ⟨hx, hb, hr, hml, hown, hts, hX, hbl, hlk, hl0, hL, hW0⟩ := hB
  have hc9 : cells + 3 ≤ room_1.cells := hcl
  have hs9 : slots + 18 ≤ room_1.slots := hsl
  have hc0 : cells ≤ room_1.cells := by omega
  have hs0 : slots ≤ room_1.slots := by omega
  refine lv_aload_n hx hb dL_law_927 rfl (lv_at hl 3 rfl) ?_
  refine lv_aload_n hx hb dL_law_928 rfl (lv_at hl 4 rfl) ?_
  refine lv_iload hx hb dL_law_929 (lv_at hl 0 rfl) ?_
  refine lv_iconst (v := (nI 1)) hx hb dL_law_931 (by decide +kernel) ?_
  refine wn_add hx hb dL_law_932 ?_
  refine lr_s (L := L) hx hb hX hbl hZ (by omega) hL dL_law_933 ?_
  refine lv_aload_n hx hb dL_law_934 rfl (lv_at hl 4 rfl) ?_
  refine lv_iload hx hb dL_law_935 (lv_at hl 0 rfl) ?_
  refine lv_iconst (v := (nI 2)) hx hb dL_law_937 (by decide +kernel) ?_
  refine wn_add hx hb dL_law_938 ?_
  refine lr_s (L := L) hx hb hX hbl hZ (by omega) hL dL_law_939 ?_
  refine lv_aload_n hx hb dL_law_940 rfl (lv_at hl 1 rfl) ?_
  refine lr_w (hh := [(0, 10, 13, 21)]) (post := (fun (v : Int32) (u : ks_T × (Nat → Int64)) => (v = nI 0 ∧ ∃ b, qo_holders S (xs (i + 1)) (xs (i + 2)) b u.1 ∧ u.2 0 = b.toInt64) ∨ (u.1 = S ∧ ∃ E, qx_holders S (xs (i + 1)) (xs (i + 2)) E ∧ ((E = kx_nse ∧ v = nI 1))))) (As := [.ref (kg_h G), .int (xs (i + 1)), .int (xs (i + 2)), .ref o]) (rest := []) ⟨hx, hb, hml, hown, hts⟩ (kL_holders l hl0 G cJ o S f (xs (i + 1)) (xs (i + 2)) hR.hP hR.V) (vx_cwSW 4 hts gL_113 rfl rfl rfl hL_holders.2 ⟨Nat.le_of_ble_eq_true rfl, Nat.le_of_ble_eq_true rfl⟩) hW0 hZ rfl hl.1 rfl (Nat.le_of_ble_eq_true rfl) dL_law_941 ⟨by omega, by omega⟩ (fun v u H locs hp hZ => ?_)
  refine lv_istore (lv' := [(5, .int v), (4, .int (nI i)), (3, .ref o), (2, .ref (mg_h E)), (1, .ref (kg_h G)), (0, .ref b)]) hx hb dL_law_944 hl (by decide) rfl (fun ls hl => ?_)
  refine lv_aload_n hx hb dL_law_946 rfl (lv_at hl 3 rfl) ?_
  refine lv_aload_n hx hb dL_law_947 rfl (lv_at hl 5 rfl) ?_
  refine lv_iload hx hb dL_law_948 (lv_at hl 1 rfl) ?_
  refine lv_iconst (v := (nI 1)) hx hb dL_law_950 (by decide +kernel) ?_
  refine wn_add hx hb dL_law_951 ?_
  refine lr_s (L := L) hx hb hX hbl hZ (by omega) hL dL_law_952 ?_
  refine lv_aload_n hx hb dL_law_953 rfl (lv_at hl 5 rfl) ?_
  refine lv_iload hx hb dL_law_954 (lv_at hl 1 rfl) ?_
  refine lv_iconst (v := (nI 2)) hx hb dL_law_956 (by decide +kernel) ?_
  refine wn_add hx hb dL_law_957 ?_
  refine lr_s (L := L) hx hb hX hbl hZ (by omega) hL dL_law_958 ?_
  refine lr_m (post := (qm_holders M (xs (i + 1)) (xs (i + 2)))) (As := [.int (xs (i + 1)), .int (xs (i + 2))]) (rest := []) ⟨hx, hb, hml, hown, hts⟩ (k1_holders l E M (xs (i + 1)) (xs (i + 2)) hR.O) (cwV 2 hts gL_115 rfl rfl rfl hX1_holders ⟨Nat.le_of_ble_eq_true rfl, Nat.le_of_ble_eq_true rfl⟩) hW0 hZ rfl hl.1 rfl (Nat.le_of_ble_eq_true rfl) dL_law_959 ⟨by omega, by omega⟩ (fun bb M1 H locs hm hZ => ?_)
  refine lv_istore (lv' := [(6, .int bb), (5, .int v), (4, .int (nI i)), (3, .ref o), (2, .ref (mg_h E)), (1, .ref (kg_h G)), (0, .ref b)]) hx hb dL_law_962 hl (by decide) rfl (fun ls hl => ?_)
  have hq : lcQ lc_i u v bb M1 := by
    rcases hp with ⟨h1, d, h2, h3⟩ | ⟨hu, E9, hx9, hv⟩
    · obtain ⟨e1, rfl, e3⟩ := rl_holders_o hR h2 hm
      exact ⟨by rw [e1]; exact h1, e3, Or.inl ⟨h1, h3⟩⟩
    · exact lc_1 hu hv (rl_holders_x hR hx9 hm)
  obtain ⟨hv1, hR1, hq⟩ := hq
  refine lv_aload_n hx hb dL_law_964 rfl (lv_at hl 4 rfl) ?_
  refine lr_m (post := (fun (v : Int32) (S' : ms_T) => v = nI (ms_t M1) ∧ S' = M1)) (As := []) (rest := []) ⟨hx, hb, hml, hown, hts⟩ (k1_thrown l E M1) (cwV 0 hts gL_70 rfl rfl rfl hX1_thrown ⟨Nat.le_of_ble_eq_true rfl, Nat.le_of_ble_eq_true rfl⟩) hW0 hZ rfl hl.1 rfl (Nat.le_of_ble_eq_true rfl) dL_law_965 ⟨by omega, by omega⟩ (fun th M2 H locs ht hZ => ?_)
  obtain ⟨ht1, ht2⟩ := ht
  rw [ht2] at hZ
  have ht3 : th = v := ht1.trans hv1.symm
  refine lv_iload hx hb dL_law_968 (lv_at hl 1 rfl) ?_
  refine lv_icmp_eq (tgt := 975) hx hb dL_law_970 rfl (fun _ => ?_) (fun h9 => absurd ht3 h9)
  refine lv_iload hx hb dL_law_975 (lv_at hl 1 rfl) ?_
  rcases hq with ⟨hv0, ho9⟩ | ⟨k9, hk9, hv0⟩
  · have hz : v = 0 := by rw [hv0]; exact nI_0
    refine lv_if_ne (tgt := 992) hx hb dL_law_977 rfl (fun h9 => absurd hz h9) (fun _ => ?_)
    refine lv_aload_n hx hb dL_law_980 rfl (lv_at hl 3 rfl) ?_
    refine lv_iconst (v := (nI 0)) hx hb dL_law_981 (by decide +kernel) ?_
    refine va_lald hx hb hW0.2.2.1 hZ.2.2.2.2.1 0 0 rfl rfl (vp_in_nI (by omega) (by omega)) dL_law_982 ?_
    rw [nI_clamp (by omega), ho9]
    refine lv_iload hx hb dL_law_983 (lv_at hl 0 rfl) ?_
    refine lv_i2l (v := lc_i bb) hx hb dL_law_985 rfl ?_
    refine W.lcmp hx hb dL_law_986 ?_
    have e8 : lg_cmp (lc_i bb) (lc_i bb) = 0 := lg_cmp0 _
    refine lv_if_eq (tgt := 992) hx hb dL_law_987 rfl (fun _ => ?_) (fun h9 => absurd e8 h9)
    refine lv_goto (tgt := 1088) hx hb dL_law_992 rfl ?_
    have hl := lv_sub (l' := [(4, .int (nI i)), (3, .ref o), (2, .ref (mg_h E)), (1, .ref (kg_h G)), (0, .ref b)]) hl [2, 3, 4, 5, 6] rfl
    refine W.widen (k := cells + 3) (n := slots + 18) (by omega) (by omega) ?_
    exact hgo u.1 M1 u.2 _ _ _ hR1 hl hZ
  · have hnz : ¬ v = 0 := by
      rw [hv0]
      rcases hk9 with rfl | rfl <;> decide
    refine lv_if_ne (tgt := 992) hx hb dL_law_977 rfl (fun _ => ?_) (fun h9 => absurd h9 hnz)
    refine lv_goto (tgt := 1088) hx hb dL_law_992 rfl ?_
    have hl := lv_sub (l' := [(4, .int (nI i)), (3, .ref o), (2, .ref (mg_h E)), (1, .ref (kg_h G)), (0, .ref b)]) hl [2, 3, 4, 5, 6] rfl
    refine W.widen (k := cells + 3) (n := slots + 18) (by omega) (by omega) ?_
    exact hgo u.1 M1 u.2 _ _ _ hR1 hl hZ
set_option maxHeartbeats 4000000 in
set_option maxRecDepth 100000 in
theorem law_about {p : Program} {l : Launch} {e : Env} {s : State} {m : MethodId} {below : List Frame} {meth : Method} {c : Code} {b L : Nat} {xs : Nat → Int32} {G : kg_T} {E : mg_T} {o : Nat} {cJ : ClassId} (hB : lwB p l s m meth c b L xs G E o cJ) {i : Nat} (hi : i + 6 ≤ L) {S : ks_T} {M : ms_T} {f : Nat → Int64} {ls : Array Slot} {H : Heap} {locs : List Loc} {cells slots : Nat} (hR : rl S M) (hl : lv_has ls 7 [(4, .int (nI i)), (3, .ref o), (2, .ref (mg_h E)), (1, .ref (kg_h G)), (0, .ref b)]) (hZ : lz G E o cJ s.heap S M f H locs) (hcl : cells + 3 ≤ 601024) (hsl : slots + 18 ≤ 7293034) (hgo : ∀ (S1 : ks_T) (M1 : ms_T) (f1 : Nat → Int64) (ls1 : Array Slot) (H1 : Heap) (locs1 : List Loc), rl S1 M1 → lv_has ls1 7 [(4, .int (nI i)), (3, .ref o), (2, .ref (mg_h E)), (1, .ref (kg_h G)), (0, .ref b)] → lz G E o cJ s.heap S1 M1 f1 H1 locs1 → W p l e room_1 s m #[Value.ref b] below meth c H1 locs1 (cells + 3) (slots + 18) (lw_Z below #[Value.ref b] s) (F0 m 1088 ls1 [])) : W p l e room_1 s m #[Value.ref b] below meth c H locs cells slots (lw_Z below #[Value.ref b] s) (F0 m 995 ls []) := by
  obtain ⟨hx, hb, hr, hml, hown, hts, hX, hbl, hlk, hl0, hL, hW0⟩ := hB
  have hc9 : cells + 3 ≤ room_1.cells := hcl
  have hs9 : slots + 18 ≤ room_1.slots := hsl
  have hc0 : cells ≤ room_1.cells := by omega
  have hs0 : slots ≤ room_1.slots := by omega
  refine lv_aload_n hx hb dL_law_995 rfl (lv_at hl 3 rfl) ?_
  refine lv_aload_n hx hb dL_law_996 rfl (lv_at hl 4 rfl) ?_
  refine lv_iload hx hb dL_law_997 (lv_at hl 0 rfl) ?_
  refine lv_iconst (v := (nI 1)) hx hb dL_law_999 (by decide +kernel) ?_
  refine wn_add hx hb dL_law_1000 ?_
  refine lr_s (L := L) hx hb hX hbl hZ (by omega) hL dL_law_1001 ?_
  refine lv_aload_n hx hb dL_law_1002 rfl (lv_at hl 4 rfl) ?_
  refine lv_iload hx hb dL_law_1003 (lv_at hl 0 rfl) ?_
  refine lv_iconst (v := (nI 2)) hx hb dL_law_1005 (by decide +kernel) ?_
  refine wn_add hx hb dL_law_1006 ?_
  refine lr_s (L := L) hx hb hX hbl hZ (by omega) hL dL_law_1007 ?_
  refine lv_aload_n hx hb dL_law_1008 rfl (lv_at hl 1 rfl) ?_
  refine lr_w (hh := [(0, 10, 13, 21), (0, 10, 17, 13)]) (post := (fun (v : Int32) (u : ks_T × (Nat → Int64)) => (v = nI 0 ∧ ∃ b, qo_about S (xs (i + 1)) (xs (i + 2)) b u.1 ∧ u.2 0 = b.toInt64) ∨ (u.1 = S ∧ ∃ E, qx_about S (xs (i + 1)) (xs (i + 2)) E ∧ ((E = kx_nse ∧ v = nI 1) ∨ (E = kx_iae ∧ v = nI 2))))) (As := [.ref (kg_h G), .int (xs (i + 1)), .int (xs (i + 2)), .ref o]) (rest := []) ⟨hx, hb, hml, hown, hts⟩ (kL_about l hl0 G cJ o S f (xs (i + 1)) (xs (i + 2)) hR.hP hR.V) (vx_cwSW 4 hts gL_116 rfl rfl rfl hL_about.2 ⟨Nat.le_of_ble_eq_true rfl, Nat.le_of_ble_eq_true rfl⟩) hW0 hZ rfl hl.1 rfl (Nat.le_of_ble_eq_true rfl) dL_law_1009 ⟨by omega, by omega⟩ (fun v u H locs hp hZ => ?_)
  refine lv_istore (lv' := [(5, .int v), (4, .int (nI i)), (3, .ref o), (2, .ref (mg_h E)), (1, .ref (kg_h G)), (0, .ref b)]) hx hb dL_law_1012 hl (by decide) rfl (fun ls hl => ?_)
  refine lv_aload_n hx hb dL_law_1014 rfl (lv_at hl 3 rfl) ?_
  refine lv_aload_n hx hb dL_law_1015 rfl (lv_at hl 5 rfl) ?_
  refine lv_iload hx hb dL_law_1016 (lv_at hl 1 rfl) ?_
  refine lv_iconst (v := (nI 1)) hx hb dL_law_1018 (by decide +kernel) ?_
  refine wn_add hx hb dL_law_1019 ?_
  refine lr_s (L := L) hx hb hX hbl hZ (by omega) hL dL_law_1020 ?_
  refine lv_aload_n hx hb dL_law_1021 rfl (lv_at hl 5 rfl) ?_
  refine lv_iload hx hb dL_law_1022 (lv_at hl 1 rfl) ?_
  refine lv_iconst (v := (nI 2)) hx hb dL_law_1024 (by decide +kernel) ?_
  refine wn_add hx hb dL_law_1025 ?_
  refine lr_s (L := L) hx hb hX hbl hZ (by omega) hL dL_law_1026 ?_
  refine lr_m (post := (qm_about M (xs (i + 1)) (xs (i + 2)))) (As := [.int (xs (i + 1)), .int (xs (i + 2))]) (rest := []) ⟨hx, hb, hml, hown, hts⟩ (k1_about l E M (xs (i + 1)) (xs (i + 2)) hR.O) (cwV 2 hts gL_118 rfl rfl rfl hX1_about ⟨Nat.le_of_ble_eq_true rfl, Nat.le_of_ble_eq_true rfl⟩) hW0 hZ rfl hl.1 rfl (Nat.le_of_ble_eq_true rfl) dL_law_1027 ⟨by omega, by omega⟩ (fun bb M1 H locs hm hZ => ?_)
  refine lv_istore (lv' := [(6, .int bb), (5, .int v), (4, .int (nI i)), (3, .ref o), (2, .ref (mg_h E)), (1, .ref (kg_h G)), (0, .ref b)]) hx hb dL_law_1030 hl (by decide) rfl (fun ls hl => ?_)
  have hq : lcQ lc_i u v bb M1 := by
    rcases hp with ⟨h1, d, h2, h3⟩ | ⟨hu, E9, hx9, hv⟩
    · obtain ⟨e1, rfl, e3⟩ := rl_about_o hR h2 hm
      exact ⟨by rw [e1]; exact h1, e3, Or.inl ⟨h1, h3⟩⟩
    · exact lc_2 (by decide) hu hv (rl_about_x hR hx9 hm)
  obtain ⟨hv1, hR1, hq⟩ := hq
  refine lv_aload_n hx hb dL_law_1032 rfl (lv_at hl 4 rfl) ?_
  refine lr_m (post := (fun (v : Int32) (S' : ms_T) => v = nI (ms_t M1) ∧ S' = M1)) (As := []) (rest := []) ⟨hx, hb, hml, hown, hts⟩ (k1_thrown l E M1) (cwV 0 hts gL_70 rfl rfl rfl hX1_thrown ⟨Nat.le_of_ble_eq_true rfl, Nat.le_of_ble_eq_true rfl⟩) hW0 hZ rfl hl.1 rfl (Nat.le_of_ble_eq_true rfl) dL_law_1033 ⟨by omega, by omega⟩ (fun th M2 H locs ht hZ => ?_)
  obtain ⟨ht1, ht2⟩ := ht
  rw [ht2] at hZ
  have ht3 : th = v := ht1.trans hv1.symm
  refine lv_iload hx hb dL_law_1036 (lv_at hl 1 rfl) ?_
  refine lv_icmp_eq (tgt := 1043) hx hb dL_law_1038 rfl (fun _ => ?_) (fun h9 => absurd ht3 h9)
  refine lv_iload hx hb dL_law_1043 (lv_at hl 1 rfl) ?_
  rcases hq with ⟨hv0, ho9⟩ | ⟨k9, hk9, hv0⟩
  · have hz : v = 0 := by rw [hv0]; exact nI_0
    refine lv_if_ne (tgt := 1060) hx hb dL_law_1045 rfl (fun h9 => absurd hz h9) (fun _ => ?_)
    refine lv_aload_n hx hb dL_law_1048 rfl (lv_at hl 3 rfl) ?_
    refine lv_iconst (v := (nI 0)) hx hb dL_law_1049 (by decide +kernel) ?_
    refine va_lald hx hb hW0.2.2.1 hZ.2.2.2.2.1 0 0 rfl rfl (vp_in_nI (by omega) (by omega)) dL_law_1050 ?_
    rw [nI_clamp (by omega), ho9]
    refine lv_iload hx hb dL_law_1051 (lv_at hl 0 rfl) ?_
    refine lv_i2l (v := lc_i bb) hx hb dL_law_1053 rfl ?_
    refine W.lcmp hx hb dL_law_1054 ?_
    have e8 : lg_cmp (lc_i bb) (lc_i bb) = 0 := lg_cmp0 _
    refine lv_if_eq (tgt := 1060) hx hb dL_law_1055 rfl (fun _ => ?_) (fun h9 => absurd e8 h9)
    refine lv_goto (tgt := 1088) hx hb dL_law_1060 rfl ?_
    have hl := lv_sub (l' := [(4, .int (nI i)), (3, .ref o), (2, .ref (mg_h E)), (1, .ref (kg_h G)), (0, .ref b)]) hl [2, 3, 4, 5, 6] rfl
    refine W.widen (k := cells + 3) (n := slots + 18) (by omega) (by omega) ?_
    exact hgo u.1 M1 u.2 _ _ _ hR1 hl hZ
  · have hnz : ¬ v = 0 := by
      rw [hv0]
      rcases hk9 with rfl | rfl <;> decide
    refine lv_if_ne (tgt := 1060) hx hb dL_law_1045 rfl (fun _ => ?_) (fun h9 => absurd h9 hnz)
    refine lv_goto (tgt := 1088) hx hb dL_law_1060 rfl ?_
    have hl := lv_sub (l' := [(4, .int (nI i)), (3, .ref o), (2, .ref (mg_h E)), (1, .ref (kg_h G)), (0, .ref b)]) hl [2, 3, 4, 5, 6] rfl
    refine W.widen (k := cells + 3) (n := slots + 18) (by omega) (by omega) ?_
    exact hgo u.1 M1 u.2 _ _ _ hR1 hl hZ
set_option maxHeartbeats 4000000 in
set_option maxRecDepth 100000 in
theorem law_count {p : Program} {l : Launch} {e : Env} {s : State} {m : MethodId} {below : List Frame} {meth : Method} {c : Code} {b L : Nat} {xs : Nat → Int32} {G : kg_T} {E : mg_T} {o : Nat} {cJ : ClassId} (hB : lwB p l s m meth c b L xs G E o cJ) {i : Nat} (hi : i + 6 ≤ L) {S : ks_T} {M : ms_T} {f : Nat → Int64} {ls : Array Slot} {H : Heap} {locs : List Loc} {cells slots : Nat} (hR : rl S M) (hl : lv_has ls 7 [(4, .int (nI i)), (3, .ref o), (2, .ref (mg_h E)), (1, .ref (kg_h G)), (0, .ref b)]) (hZ : lz G E o cJ s.heap S M f H locs) (hcl : cells + 3 ≤ 601024) (hsl : slots + 18 ≤ 7293034) (hgo : ∀ (S1 : ks_T) (M1 : ms_T) (f1 : Nat → Int64) (ls1 : Array Slot) (H1 : Heap) (locs1 : List Loc), rl S1 M1 → lv_has ls1 7 [(4, .int (nI i)), (3, .ref o), (2, .ref (mg_h E)), (1, .ref (kg_h G)), (0, .ref b)] → lz G E o cJ s.heap S1 M1 f1 H1 locs1 → W p l e room_1 s m #[Value.ref b] below meth c H1 locs1 (cells + 3) (slots + 18) (lw_Z below #[Value.ref b] s) (F0 m 1088 ls1 [])) : W p l e room_1 s m #[Value.ref b] below meth c H locs cells slots (lw_Z below #[Value.ref b] s) (F0 m 1063 ls []) := by
  obtain ⟨hx, hb, hr, hml, hown, hts, hX, hbl, hlk, hl0, hL, hW0⟩ := hB
  have hc9 : cells + 3 ≤ room_1.cells := hcl
  have hs9 : slots + 18 ≤ room_1.slots := hsl
  have hc0 : cells ≤ room_1.cells := by omega
  have hs0 : slots ≤ room_1.slots := by omega
  refine lv_aload_n hx hb dL_law_1063 rfl (lv_at hl 3 rfl) ?_
  refine lv_aload_n hx hb dL_law_1064 rfl (lv_at hl 4 rfl) ?_
  refine lv_iload hx hb dL_law_1065 (lv_at hl 0 rfl) ?_
  refine lv_iconst (v := (nI 1)) hx hb dL_law_1067 (by decide +kernel) ?_
  refine wn_add hx hb dL_law_1068 ?_
  refine lr_s (L := L) hx hb hX hbl hZ (by omega) hL dL_law_1069 ?_
  refine lr_c (post := qo_count S (xs (i + 1))) (As := [.int (xs (i + 1))]) (rest := []) ⟨hx, hb, hml, hown, hts⟩ (k0_count l G S (xs (i + 1)) hR.hP hR.V) (cwV 1 hts gL_119 rfl rfl rfl hX0_count ⟨Nat.le_of_ble_eq_true rfl, Nat.le_of_ble_eq_true rfl⟩) hW0 hZ rfl hl.1 rfl (Nat.le_of_ble_eq_true rfl) dL_law_1070 ⟨by omega, by omega⟩ (fun v S1 H locs hp hZ => ?_)
  refine lv_aload_n hx hb dL_law_1073 rfl (lv_at hl 2 rfl) ?_
  refine lv_aload_n hx hb dL_law_1074 rfl (lv_at hl 4 rfl) ?_
  refine lv_iload hx hb dL_law_1075 (lv_at hl 0 rfl) ?_
  refine lv_iconst (v := (nI 1)) hx hb dL_law_1077 (by decide +kernel) ?_
  refine wn_add hx hb dL_law_1078 ?_
  refine lr_s (L := L) hx hb hX hbl hZ (by omega) hL dL_law_1079 ?_
  refine lr_m (post := (qm_count M (xs (i + 1)))) (As := [.int (xs (i + 1))]) (rest := [.int v]) ⟨hx, hb, hml, hown, hts⟩ (k1_count l E M (xs (i + 1)) hR.O) (cwV 1 hts gL_122 rfl rfl rfl hX1_count ⟨Nat.le_of_ble_eq_true rfl, Nat.le_of_ble_eq_true rfl⟩) hW0 hZ rfl hl.1 rfl (Nat.le_of_ble_eq_true rfl) dL_law_1080 ⟨by omega, by omega⟩ (fun bb M1 H locs hm hZ => ?_)
  obtain ⟨hvb, hR1⟩ := rl_count hR hp hm
  refine lv_icmp_eq (tgt := 1088) hx hb dL_law_1083 rfl (fun _ => ?_) (fun h9 => absurd hvb h9)
  refine W.widen (k := cells + 3) (n := slots + 18) (by omega) (by omega) ?_
  exact hgo S1 M1 f _ _ _ hR1 hl hZ
