/-! throwing: what it needs of the start, the rows -/
abbrev kx_nse : String := "java/util/NoSuchElementException"
abbrev kx_iae : String := "java/lang/IllegalArgumentException"
abbrev kx_ise : String := "java/lang/IllegalStateException"
abbrev kx_ae : String := "java/lang/ArithmeticException"
def kx_B : List Cond := [.castable kx_nse kx_nse, .castable kx_iae kx_iae, .castable kx_ise kx_ise, .castable kx_ae kx_ae, .declares ⟨"java/lang/RuntimeException", "<init>", "()V"⟩, .declares ⟨"java/lang/Exception", "<init>", "()V"⟩, .declares ⟨"java/lang/Throwable", "<init>", "()V"⟩]
abbrev kx_up : List String := ["java/lang/RuntimeException", "java/lang/Exception"]
def kx_N (U : State) : Prop := ∀ w ∈ kx_B, va_Nw w U
theorem kx_on : ∀ w ∈ kx_B, w.onTables = true := by decide +kernel
theorem kx_N.use {U : State} {A : Array Value} (h : kx_N U) : ∀ w ∈ kx_B, w.before A U = true := fun w hw => va_Nw.use (kx_on w hw) (h w hw)
theorem kx_N.warm {s U : State} (hW : s.WarmedH U.vm) (h : kx_N s) : kx_N U := by
  intro w hw
  have h1 := h w hw
  simp only [kx_B, List.mem_cons, List.not_mem_nil, or_false] at hw
  rcases hw with rfl | rfl | rfl | rfl | rfl | rfl | rfl
  · exact va_Nw.warmC hW h1
  · exact va_Nw.warmC hW h1
  · exact va_Nw.warmC hW h1
  · exact va_Nw.warmC hW h1
  · exact va_Nw.warmD hW h1
  · exact va_Nw.warmD hW h1
  · exact va_Nw.warmD hW h1
theorem kx_N.same {s U : State} (hv : s.vm = U.vm) (h : kx_N s) : kx_N U := fun w hw => va_Nw.same (kx_on w hw) hv (h w hw)
/-- the two statics of Throwable, outside A; the words that no list hands on -/
def kc_X (A : Nat → Prop) (U : State) (H : Heap) : Prop := vx_Zq Bundle.tN "UNASSIGNED_STACK" Bundle.steD A U H ∧ vx_Zq Bundle.tN "SUPPRESSED_SENTINEL" Bundle.listD A U H ∧ kx_N U
theorem kc_X.kept {A : Nat → Prop} {U : State} {H H1 : Heap} (h : kc_X A U H) (hq : ∀ a : Nat, a < H.size → ¬ A a → H1[a]? = H[a]?) : kc_X A U H1 := ⟨h.1.kept hq, h.2.1.kept hq, h.2.2⟩
theorem kc_X.warm {A : Nat → Prop} {s U : State} {H : Heap} (hW : s.WarmedH U.vm) (h : kc_X A s H) : kc_X A U H := ⟨h.1.moved hW.alike, h.2.1.moved hW.alike, h.2.2.warm hW⟩
theorem kc_X.narrow {A B : Nat → Prop} {U : State} {H : Heap} (h : kc_X A U H) (hAB : ∀ q, B q → A q) : kc_X B U H := ⟨h.1.narrow hAB, h.2.1.narrow hAB, h.2.2⟩
theorem kc_X.same {A : Nat → Prop} {s U : State} {H : Heap} (hv : s.vm = U.vm) (h : kc_X A s H) : kc_X A U H := ⟨h.1.moved (by rw [← hv]; exact Vm.Alike.refl _), h.2.1.moved (by rw [← hv]; exact Vm.Alike.refl _), h.2.2.same hv⟩
def kc_px (G : kg_T) (S : ks_T) (U : State) : Prop := kc_p G S U ∧ kc_X (kg_A G) U U.heap
/-- an exception of a kind that pe allows leaves, and the state is S as it was -/
def kc_xx (G : kg_T) (S : ks_T) (pe : String → Prop) : String → State → State → Prop := vx_X (fun _ : Unit => True) (fun E _ t => pe E ∧ kc_q G S t) (kg_A G)
theorem kc_xblind {G : kg_T} {S : ks_T} {av : List Value} : FrameBlind (va_Pc av (kc_px G S)) := fun a U g mk q => ⟨q.1, (kc_blind a U g mk ⟨q.1, q.2.1⟩).2, q.2.2.same (s := U) (U := U.calling g mk a) rfl⟩
/-- what a 'throw new E()' of the class's is decided by -/
def kx_ok (ik ic : Nat) (E : String) : Prop := Bundle.fit E = true ∧ Cond.classLink RX0 ik E ∈ nw_T ∧ Cond.initialized E ∈ nw_T ∧ (∀ w ∈ (vx_at0 RX0 ic E kx_up).filter goodWord, w ∈ nw_T) ∧ (∀ w ∈ (vx_at0 RX0 ic E kx_up).filter (fun w => !goodWord w), w ∈ kx_B) ∧ (∀ w ∈ Cond.classLink RX0 ik E :: Cond.initialized E :: vx_at0 RX0 ic E kx_up, vx_ot w = true)
theorem kx_nseOk : kx_ok 117 119 kx_nse := ⟨by decide +kernel, by decide +kernel, by decide +kernel, by decide +kernel, by decide +kernel, by decide +kernel⟩
theorem kx_iaeOk : kx_ok 101 103 kx_iae := ⟨by decide +kernel, by decide +kernel, by decide +kernel, by decide +kernel, by decide +kernel, by decide +kernel⟩
theorem kx_iseOk : kx_ok 120 122 kx_ise := ⟨by decide +kernel, by decide +kernel, by decide +kernel, by decide +kernel, by decide +kernel, by decide +kernel⟩
theorem kx_aeOk : kx_ok 123 125 kx_ae := ⟨by decide +kernel, by decide +kernel, by decide +kernel, by decide +kernel, by decide +kernel, by decide +kernel⟩
section KX
variable {p : Program} {l : Launch} {e : Env} {R : Room} {s : State} {m : MethodId} {args : Array Value} {below : List Frame} {meth : Method} {c : Code} {H : Heap} {locs : List Loc} {cells slots : Nat} {Q : State → Prop}
variable {cc : ByteArray} {pc : Nat} {ls : Array Slot} {rest st0 : List Value} {G : kg_T} {S : ks_T}
variable {y : MethodName} {bytes : ByteArray} {maxL nL mc ms mc0 ms0 n index : Nat} {ret : Option FieldType} {ws : List Cond} {rm : Room} {Ts : List Cond} {own : String} {As : List Value} {pe pe0 : String → Prop}
theorem kr_th {Qc : Array Value → State → Outcome → State → Prop} {ik ic : Nat} {E : String} (hE : kx_ok ik ic E) (hx : p.tables.exec = Jvm.exec) (hb : c.code = cc) (hl0 : l.stackTraces = false) (hown : s.vm.findClass RX0 = some m.cls) (hT : ∀ w ∈ nw_T, w.before args s = true) (hX : kc_X (kg_A G) s s.heap) (hC : kc_at G (kg_A G) s.heap S H locs) (hsize : ls.size = c.maxLocals) (ht : ∀ x ∈ c.exceptionTable.toList, False)
    (d0 : decode cc pc = .ok (.new ik, 3)) (d3 : decode cc (pc + 3) = .ok (.dup, 1)) (d4 : decode cc (pc + 4) = .ok (.invokespecial ic, 3)) (d7 : decode cc (pc + 7) = .ok (.athrow, 1))
    (hRf : 5 < R.frames) (hRl : (rest.map fun v => v.category).sum + 81 ≤ R.locals) (hRc : cells + 1 ≤ R.cells) (hRs : slots + 6 ≤ R.slots) (hlk : meth.locks = false) (hpe : pe E) (hc : cells + 1 ≤ mc) (hs : slots + 6 ≤ ms) :
    W p l e R s m args below meth c H locs cells slots (vx_MQ below Qc (kc_xx G S pe) args s mc ms (kg_A G)) (F0 m pc ls rest) := by
  obtain ⟨f1, f2, f3, f4, f5, f6⟩ := hE
  refine vx_throw0 (names := kx_up) (A := kg_A G) hx hb hl0 hown f1 (by decide +kernel) (hT _ f2) (hT _ f3) (vx_hat (B := kx_B) (fun w hw => hT w (f4 w hw)) f5 hX.2.2.use) f6 hX.1 hX.2.1 hC.2.2 hsize d0 d3 d4 d7 (fun x h => (ht x h).elim) hRf hRl hRc hRs hlk ?_ hC.2.2.2.2 hc hs
  intro t hal hz hk
  refine ⟨(), trivial, ⟨hpe, hC.1.kept (fun k q hq => hk q.1 ((hC.1 k q hq).lt)), hC.2.1⟩, Nat.le_trans hC.2.2.1 hz, fun q h1 h2 => ?_⟩
  rw [hk q (Nat.lt_of_lt_of_le h1 hC.2.2.1)]
  exact hC.2.2.2.1 q h1 h2
theorem kr_preX (hK : kc_K G s) (hX : kc_X (kg_A G) s s.heap) (hC : kc_at G (kg_A G) s.heap S H locs) : PreV s H RX0 (kg_h G) (va_Pc (.ref (kg_h G) :: As) (kc_px G S)) As :=
  ⟨kc_xblind, va_recv (q := (RX0, TX0, 7)) (ci := 0) (q0 := 0) (fs := kc_f G) hK hC.1 rfl rfl, fun U hU hW => ⟨rfl, ⟨by rw [hU]; exact hC.1, hC.2.1, va_K.moved hW.alike hK⟩, by rw [hU]; exact (hX.kept hC.2.2.2.1).warm hW⟩⟩
/-- not caught here -/
theorem kr_out {Qc : Array Value → State → Outcome → State → Prop} {E : String} {ce : Cell} {q9 : Addr} (ht : ∀ x ∈ c.exceptionTable.toList, False) (hlk : meth.locks = false) (hpe : pe0 E) (hC : kc_at G (kg_A G) s.heap S H locs) (hcell : H[q9]? = some ce) (hv : ce.vm = .none) (hcl : s.vm.findClass E = some ce.cls) (hc : cells ≤ mc0) (hs : slots ≤ ms0) :
    vx_W p l e R s m args below meth c H locs cells slots (vx_MQ below Qc (kc_xx G S pe0) args s mc0 ms0 (kg_A G)) (F0 m pc ls rest) q9 :=
  vx_out (fun x h => (ht x h).elim) hlk hcell hv hcl (fun t e1 _ => ⟨(), trivial, ⟨hpe, by rw [e1]; exact hC.1, hC.2.1⟩, hC.2.2.F e1⟩) hC.2.2.2.2 hc hs
theorem kr_xi {post : Int32 → ks_T → Prop} (F : CallFix p m c cc nL s args Ts own) (hM : vx_Met l y ws rm (va_Pc (.ref (kg_h G) :: As) (kc_px G S)) (va_Qi post (kc_q G) (kg_A G)) (kc_xx G S pe) mc ms (kg_A G)) (cw : CallW R s args own RX0 index y bytes maxL ret ws rm mc ms n) (hK : kc_K G s) (hX : kc_X (kg_A G) s s.heap) (hC : kc_at G (kg_A G) s.heap S H locs) (hn : As.length = n) (hsize : ls.size = nL) (hst : st0 = As.reverse ++ .ref (kg_h G) :: rest) (hw : (rest.map fun v => v.category).sum ≤ 8) (hdg : decode cc pc = .ok (.invokevirtual index, 3)) (hf : cells + mc ≤ R.cells ∧ slots + ms ≤ R.slots)
    (kx : ∀ (E : String) (ce : Cell) (q9 : Addr) (H1 : Heap) (locs1 : List Loc), pe E → kc_at G (kg_A G) s.heap S H1 locs1 → H1[q9]? = some ce → ce.vm = .none → s.vm.findClass E = some ce.cls → vx_W p l e R s m args below meth c H1 locs1 (cells + mc) (slots + ms) Q (F0 m pc ls rest) q9)
    (kk : ∀ (r : Int32) (S' : ks_T) (H1 : Heap) (locs1 : List Loc), post r S' → kc_at G (kg_A G) s.heap S' H1 locs1 → W p l e R s m args below meth c H1 locs1 (cells + mc) (slots + ms) Q (F0 m (pc + 3) ls (.int r :: rest))) : W p l e R s m args below meth c H locs cells slots Q (F0 m pc ls st0) :=
  vx_calli (vx_runV (As := As) (rest := rest) F hM cw (kr_preX hK hX hC) rfl hn hsize hst (lv_room hw) hdg hf) hC.2.2 (fun q _ h => h) (fun q h => h) (fun q _ h => h)
    (fun E ce q9 u t H1 locs1 ht hvm hp hB hz hk hS hce hcv hcl => kx E ce q9 H1 locs1 hB.1 ⟨by rw [← ht]; exact hB.2.1, hB.2.2, hS⟩ hce hcv hcl)
    (fun r u t H1 locs1 ht hvm hp hB hz hk hS => kk r u H1 locs1 hp ⟨by rw [← ht]; exact hB.1, hB.2, hS⟩)
theorem kr_xv {post : ks_T → Prop} (F : CallFix p m c cc nL s args Ts own) (hM : vx_Met l y ws rm (va_Pc (.ref (kg_h G) :: As) (kc_px G S)) (va_Qv post (kc_q G) (kg_A G)) (kc_xx G S pe) mc ms (kg_A G)) (cw : CallW R s args own RX0 index y bytes maxL ret ws rm mc ms n) (hK : kc_K G s) (hX : kc_X (kg_A G) s s.heap) (hC : kc_at G (kg_A G) s.heap S H locs) (hn : As.length = n) (hsize : ls.size = nL) (hst : st0 = As.reverse ++ .ref (kg_h G) :: rest) (hw : (rest.map fun v => v.category).sum ≤ 8) (hdg : decode cc pc = .ok (.invokevirtual index, 3)) (hf : cells + mc ≤ R.cells ∧ slots + ms ≤ R.slots)
    (kx : ∀ (E : String) (ce : Cell) (q9 : Addr) (H1 : Heap) (locs1 : List Loc), pe E → kc_at G (kg_A G) s.heap S H1 locs1 → H1[q9]? = some ce → ce.vm = .none → s.vm.findClass E = some ce.cls → vx_W p l e R s m args below meth c H1 locs1 (cells + mc) (slots + ms) Q (F0 m pc ls rest) q9)
    (kk : ∀ (S' : ks_T) (H1 : Heap) (locs1 : List Loc), post S' → kc_at G (kg_A G) s.heap S' H1 locs1 → W p l e R s m args below meth c H1 locs1 (cells + mc) (slots + ms) Q (F0 m (pc + 3) ls rest)) : W p l e R s m args below meth c H locs cells slots Q (F0 m pc ls st0) :=
  vx_callv (vx_runV (As := As) (rest := rest) F hM cw (kr_preX hK hX hC) rfl hn hsize hst (lv_room hw) hdg hf) hC.2.2 (fun q _ h => h) (fun q h => h) (fun q _ h => h)
    (fun E ce q9 u t H1 locs1 ht hvm hp hB hz hk hS hce hcv hcl => kx E ce q9 H1 locs1 hB.1 ⟨by rw [← ht]; exact hB.2.1, hB.2.2, hS⟩ hce hcv hcl)
    (fun u t H1 locs1 ht hvm hp hB hz hk hS => kk u H1 locs1 hp ⟨by rw [← ht]; exact hB.1, hB.2, hS⟩)
theorem kr_xiret {post : Int32 → ks_T → Prop} {XC : String → State → State → Prop} {v : Int32} (hx : p.tables.exec = Jvm.exec) (hb : c.code = cc) (hr : meth.sig.returnType = some .int) (hlk : meth.locks = false) (hC : kc_at G (kg_A G) s.heap S H locs) (hp : post v S) (hdg : decode cc pc = .ok (.ireturn, 1)) (hc : cells ≤ mc) (hs : slots ≤ ms) : W p l e R s m args below meth c H locs cells slots (vx_MQ below (va_Qi post (kc_q G) (kg_A G)) XC args s mc ms (kg_A G)) (F0 m pc ls [.int v]) :=
  W.widen hc hs (vx_ret (kr_iret hx hb hr hlk hC hp hdg))
theorem kr_xzret {post : Int32 → ks_T → Prop} {XC : String → State → State → Prop} {v : Int32} (hx : p.tables.exec = Jvm.exec) (hb : c.code = cc) (hr : meth.sig.returnType = some .boolean) (hlk : meth.locks = false) (hC : kc_at G (kg_A G) s.heap S H locs) (hn : narrow .boolean (.int v) = .int v) (hp : post v S) (hdg : decode cc pc = .ok (.ireturn, 1)) (hc : cells ≤ mc) (hs : slots ≤ ms) : W p l e R s m args below meth c H locs cells slots (vx_MQ below (va_Qi post (kc_q G) (kg_A G)) XC args s mc ms (kg_A G)) (F0 m pc ls [.int v]) :=
  W.widen hc hs (vx_ret (kr_zret hx hb hr hlk hC hn hp hdg))
theorem kr_xvret {post : ks_T → Prop} {XC : String → State → State → Prop} (hx : p.tables.exec = Jvm.exec) (hb : c.code = cc) (hr : meth.sig.returnType = none) (hlk : meth.locks = false) (hC : kc_at G (kg_A G) s.heap S H locs) (hp : post S) (hdg : decode cc pc = .ok (.return_, 1)) (hc : cells ≤ mc) (hs : slots ≤ ms) : W p l e R s m args below meth c H locs cells slots (vx_MQ below (va_Qv post (kc_q G) (kg_A G)) XC args s mc ms (kg_A G)) (F0 m pc ls []) :=
  W.widen hc hs (vx_ret (kr_vret hx hb hr hlk hC hp hdg))
end KX
