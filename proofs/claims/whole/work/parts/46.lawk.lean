/-! the law's world: the class's object, the reference's, the array for the answer; rows over it -/
def lz (G : kg_T) (E : mg_T) (o : Nat) (cJ : ClassId) (H0 : Heap) (S : ks_T) (M : ms_T) (f : Nat → Int64) (H : Heap) (locs : List Loc) : Prop :=
  va_P (kg_D G) vwCl (kc_L G S) H ∧ va_D (kg_A G) (kc_L G S) ∧ va_P (mg_D E) vwCl (mc_L E M) H ∧ va_D (mg_A E) (mc_L E M) ∧ va_P (kg_D G) vwCl (ol cJ o f) H ∧ va_S (fun q => H0.size ≤ q) H0 H locs
def lzg (G : kg_T) (E : mg_T) (o : Nat) (H0 : Heap) : Prop := (∀ q, kg_A G q → ¬ mg_A E q ∧ q ≠ o ∧ H0.size ≤ q) ∧ (∀ q, mg_A E q → q ≠ o ∧ H0.size ≤ q) ∧ H0.size ≤ o
def lzw (G : kg_T) (E : mg_T) (o : Nat) (cJ : ClassId) (s : State) : Prop := kc_K G s ∧ mc_K E s ∧ va_K (kg_D G) vwCl [(cJ, .long)] s ∧ kc_X (fun q => s.heap.size ≤ q) s s.heap ∧ lo_N s ∧ lzg G E o s.heap
section LZ
variable {p : Program} {l : Launch} {e : Env} {R : Room} {s : State} {m : MethodId} {args : Array Value} {below : List Frame} {meth : Method} {c : Code} {H : Heap} {locs : List Loc} {cells slots : Nat} {Q : State → Prop}
variable {cc : ByteArray} {pc : Nat} {ls : Array Slot} {rest st0 : List Value} {G : kg_T} {S : ks_T} {E : mg_T} {M : ms_T} {cJ : ClassId} {o : Nat} {f : Nat → Int64}
variable {y : MethodName} {bytes : ByteArray} {maxL nL mc ms n index : Nat} {ret9 : Option FieldType} {ws : List Cond} {rm : Room} {Ts : List Cond} {own : String} {As : List Value} {hh : List (Nat × Nat × Nat × Nat)}
theorem lr_s (hx : p.tables.exec = Jvm.exec) (hb : c.code = cc) {b L : Nat} {xs : Nat → Int32} (hX : va_X b L xs s s.heap) (hbl : b < s.heap.size) (hZ : lz G E o cJ s.heap S M f H locs) {j : Nat} (hj : j < L) (hL : L ≤ 3072) (hdg : decode cc pc = .ok (.iaload, 1))
    (kk : W p l e R s m args below meth c H locs cells slots Q (F0 m (pc + 1) ls (.int (xs j) :: rest))) : W p l e R s m args below meth c H locs cells slots Q (F0 m pc ls (.int (nI j) :: .ref b :: rest)) := by
  refine va_sld hx hb hX hbl (show ¬ s.heap.size ≤ b by omega) hZ.2.2.2.2.2 (vp_in_nI hj (by omega)) hdg ?_
  rw [nI_clamp (by omega)]
  exact kk
theorem lr_w {post : Int32 → ks_T × (Nat → Int64) → Prop} (F : CallFix p m c cc nL s args Ts own) (hM : Met l y ws rm (va_Pc As (lo_p G cJ o S f)) (va_Qi post (lo_q G cJ o) (lo_A G o)) mc ms (lo_A G o)) (cw : vx_CSW R s args own index y bytes maxL ret9 hh ws rm mc ms n) (hW0 : lzw G E o cJ s) (hZ : lz G E o cJ s.heap S M f H locs) (hn : As.length = n) (hsize : ls.size = nL) (hst : st0 = As.reverse ++ rest) (hw : (rest.map fun v => v.category).sum ≤ 8) (hdg : decode cc pc = .ok (.invokestatic index, 3)) (hf : cells + mc ≤ R.cells ∧ slots + ms ≤ R.slots)
    (kk : ∀ (r : Int32) (u : ks_T × (Nat → Int64)) (H1 : Heap) (locs1 : List Loc), post r u → lz G E o cJ s.heap u.1 M u.2 H1 locs1 → W p l e R s m args below meth c H1 locs1 (cells + mc) (slots + ms) Q (F0 m (pc + 3) ls (.int r :: rest))) : W p l e R s m args below meth c H locs cells slots Q (F0 m pc ls st0) := by
  obtain ⟨hK, hK1, hK2, hX, hN, hg⟩ := hW0
  obtain ⟨z1, z2, z3, z4, z5, z6⟩ := hZ
  have hA : ∀ q, lo_A G o q → s.heap.size ≤ q := fun q h => h.elim (fun h => (hg.1 q h).2.2) (fun h => by rw [h]; exact hg.2.2)
  refine va_calli (vx_runSW (As := As) (rest := rest) F hM cw ⟨lo_blind, fun U hU hW => ⟨rfl, ⟨⟨by rw [hU]; exact z1, z2, va_K.moved hW.alike hK⟩, by rw [hU]; exact ((hX.kept z6.2.1).narrow (fun q h => (hg.1 q h).2.2)).warm hW⟩, by rw [hU]; exact z5, va_K.moved hW.alike hK2, fun h => (hg.1 o h).2.1 rfl, hN.moved hW.alike⟩⟩ rfl hn hsize hst (lv_room hw) hdg hf) z6 (fun q _ h => hA q h) hA (fun r u t H1 locs1 ht hvm hp hB hz hk hS => kk r u H1 locs1 hp ⟨by rw [← ht]; exact hB.1.1, hB.1.2, z3.kept (fun k q h => hk q.1 ((z3 k q h).lt) (fun w => w.elim (fun w => (hg.1 _ w).1 (z4.2 k q h)) (fun w => (hg.2.1 _ (z4.2 k q h)).1 w))), z4, by rw [← ht]; exact hB.2, hS⟩)
theorem lr_m {post : Int32 → ms_T → Prop} (F : CallFix p m c cc nL s args Ts own) (hM : Met l y ws rm (va_Pc (.ref (mg_h E) :: As) (mc_p E M)) (va_Qi post (mc_q E) (mg_A E)) 0 0 (mg_A E)) (cw : CallW R s args own RX1 index y bytes maxL ret9 ws rm 0 0 n) (hW0 : lzw G E o cJ s) (hZ : lz G E o cJ s.heap S M f H locs) (hn : As.length = n) (hsize : ls.size = nL) (hst : st0 = As.reverse ++ .ref (mg_h E) :: rest) (hw : (rest.map fun v => v.category).sum ≤ 8) (hdg : decode cc pc = .ok (.invokevirtual index, 3)) (hf : cells ≤ R.cells ∧ slots ≤ R.slots)
    (kk : ∀ (r : Int32) (M' : ms_T) (H1 : Heap) (locs1 : List Loc), post r M' → lz G E o cJ s.heap S M' f H1 locs1 → W p l e R s m args below meth c H1 locs1 cells slots Q (F0 m (pc + 3) ls (.int r :: rest))) : W p l e R s m args below meth c H locs cells slots Q (F0 m pc ls st0) := by
  obtain ⟨hK, hK1, hK2, hX, hN, hg⟩ := hW0
  obtain ⟨z1, z2, z3, z4, z5, z6⟩ := hZ
  refine va_calli (va_runV (As := As) (rest := rest) F hM cw ⟨mc_blind, va_recv (q := (RX1, TX1, 6)) (ci := 1) (q0 := 0) (fs := mc_f E M) hK1 z3 rfl rfl, fun U hU hW => ⟨rfl, by rw [hU]; exact z3, z4, va_K.moved hW.alike hK1⟩⟩ rfl hn hsize hst (lv_room hw) hdg hf) z6 (fun q _ h => (hg.2.1 q h).2) (fun q h => (hg.2.1 q h).2) (fun r u t H1 locs1 ht hvm hp hB hz hk hS => kk r u H1 locs1 hp ⟨z1.kept (fun k q h => hk q.1 ((z1 k q h).lt) (hg.1 _ (z2.2 k q h)).1), z2, by rw [← ht]; exact hB.1, hB.2, ol_kept z5 (hk o ((z5 0 _ rfl).lt) (fun w => (hg.2.1 o w).1 rfl)), hS⟩)
theorem lr_c {post : Int32 → ks_T → Prop} (F : CallFix p m c cc nL s args Ts own) (hM : Met l y ws rm (va_Pc (.ref (kg_h G) :: As) (kc_p G S)) (va_Qi post (kc_q G) (kg_A G)) 0 0 (kg_A G)) (cw : CallW R s args own RX0 index y bytes maxL ret9 ws rm 0 0 n) (hW0 : lzw G E o cJ s) (hZ : lz G E o cJ s.heap S M f H locs) (hn : As.length = n) (hsize : ls.size = nL) (hst : st0 = As.reverse ++ .ref (kg_h G) :: rest) (hw : (rest.map fun v => v.category).sum ≤ 8) (hdg : decode cc pc = .ok (.invokevirtual index, 3)) (hf : cells ≤ R.cells ∧ slots ≤ R.slots)
    (kk : ∀ (r : Int32) (S' : ks_T) (H1 : Heap) (locs1 : List Loc), post r S' → lz G E o cJ s.heap S' M f H1 locs1 → W p l e R s m args below meth c H1 locs1 cells slots Q (F0 m (pc + 3) ls (.int r :: rest))) : W p l e R s m args below meth c H locs cells slots Q (F0 m pc ls st0) := by
  obtain ⟨hK, hK1, hK2, hX, hN, hg⟩ := hW0
  obtain ⟨z1, z2, z3, z4, z5, z6⟩ := hZ
  refine va_calli (va_runV (As := As) (rest := rest) F hM cw ⟨kc_blind, va_recv (q := (RX0, TX0, 7)) (ci := 0) (q0 := 0) (fs := kc_f G) hK z1 rfl rfl, fun U hU hW => ⟨rfl, by rw [hU]; exact z1, z2, va_K.moved hW.alike hK⟩⟩ rfl hn hsize hst (lv_room hw) hdg hf) z6 (fun q _ h => (hg.1 q h).2.2) (fun q h => (hg.1 q h).2.2) (fun r u t H1 locs1 ht hvm hp hB hz hk hS => kk r u H1 locs1 hp ⟨by rw [← ht]; exact hB.1, hB.2, z3.kept (fun k q h => hk q.1 ((z3 k q h).lt) (fun w => (hg.1 _ w).1 (z4.2 k q h))), z4, ol_kept z5 (hk o ((z5 0 _ rfl).lt) (fun w => (hg.1 o w).2.1 rfl)), hS⟩)
end LZ
/-- what holds all through the law -/
def lwB (p : Program) (l : Launch) (s : State) (m : MethodId) (meth : Method) (c : Code) (b L : Nat) (xs : Nat → Int32) (G : kg_T) (E : mg_T) (o : Nat) (cJ : ClassId) : Prop :=
  p.tables.exec = Jvm.exec ∧ c.code = code ∧ meth.sig.returnType = ret ∧ c.maxLocals = 7 ∧ s.vm.findClass RL = some m.cls ∧ (∀ w ∈ Cond.arrayClass .int :: nw_T, w.before #[Value.ref b] s = true) ∧ va_X b L xs s s.heap ∧ b < s.heap.size ∧ meth.locks = false ∧ l.stackTraces = false ∧ L ≤ 3072 ∧ lzw G E o cJ s
/-- an answer and the reference's: the same outcome, and the same number where there is one -/
def lcQ (w : Int32 → Int64) (u : ks_T × (Nat → Int64)) (v b : Int32) (M' : ms_T) : Prop := v = nI (ms_t M') ∧ rl u.1 M' ∧ ((v = nI 0 ∧ u.2 0 = w b) ∨ ∃ k, (k = 1 ∨ k = 2) ∧ v = nI k)
def lc_i (b : Int32) : Int64 := b.toInt64
def lc_z (b : Int32) : Int64 := if b = 0 then 0 else 1
theorem lc_1 {S : ks_T} {u : ks_T × (Nat → Int64)} {v b : Int32} {M' : ms_T} {E0 : String} {w : Int32 → Int64} {E : String} (hu : u.1 = S) (hv : E = E0 ∧ v = nI 1) (h : (E = E0 ∧ ms_t M' = 1) ∧ rl S M') : lcQ w u v b M' := ⟨by rw [h.1.2]; exact hv.2, by rw [hu]; exact h.2, Or.inr ⟨1, Or.inl rfl, hv.2⟩⟩
theorem lc_2 {S : ks_T} {u : ks_T × (Nat → Int64)} {v b : Int32} {M' : ms_T} {E0 E1 : String} {w : Int32 → Int64} {E : String} (hne : E0 ≠ E1) (hu : u.1 = S) (hv : (E = E0 ∧ v = nI 1) ∨ (E = E1 ∧ v = nI 2)) (h : ((E = E0 ∧ ms_t M' = 1) ∨ (E = E1 ∧ ms_t M' = 2)) ∧ rl S M') : lcQ w u v b M' := by
  rcases hv with ⟨e1, hv⟩ | ⟨e1, hv⟩
  · rcases h.1 with ⟨_, h1⟩ | ⟨e2, _⟩
    · exact ⟨by rw [h1]; exact hv, by rw [hu]; exact h.2, Or.inr ⟨1, Or.inl rfl, hv⟩⟩
    · exact absurd (e1.symm.trans e2) hne
  · rcases h.1 with ⟨e2, _⟩ | ⟨_, h1⟩
    · exact absurd (e2.symm.trans e1) hne
    · exact ⟨by rw [h1]; exact hv, by rw [hu]; exact h.2, Or.inr ⟨2, Or.inr rfl, hv⟩⟩
theorem lg_cmp0 (x : Int64) : lg_cmp x x = 0 := by
  unfold lg_cmp
  simp
