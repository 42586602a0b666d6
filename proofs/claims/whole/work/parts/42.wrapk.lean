/-! the law's wrappers: the array for the answer, what they start from, how they end -/
def ol (cJ : ClassId) (o : Nat) (f : Nat → Int64) : va_W := [(o, .inl (cJ, 1, .inr (.inl f)))]
def lo_A (G : kg_T) (o : Nat) : Nat → Prop := fun q => kg_A G q ∨ q = o
def lo_N (U : State) : Prop := va_Nc kx_ise kx_iae U ∧ va_Nc kx_ise kx_nse U ∧ va_Nc kx_ae kx_nse U ∧ va_Nc kx_iae kx_nse U
theorem lo_N.moved {u U : State} (hvm : u.vm.Alike U.vm) (h : lo_N u) : lo_N U := ⟨h.1.moved hvm, h.2.1.moved hvm, h.2.2.1.moved hvm, h.2.2.2.moved hvm⟩
def lo_p (G : kg_T) (cJ : ClassId) (o : Nat) (S : ks_T) (f : Nat → Int64) (U : State) : Prop := kc_px G S U ∧ va_P (kg_D G) vwCl (ol cJ o f) U.heap ∧ va_K (kg_D G) vwCl [(cJ, .long)] U ∧ ¬ kg_A G o ∧ lo_N U
def lo_q (G : kg_T) (cJ : ClassId) (o : Nat) (u : ks_T × (Nat → Int64)) (t : State) : Prop := kc_q G u.1 t ∧ va_P (kg_D G) vwCl (ol cJ o u.2) t.heap
theorem lo_blind {G : kg_T} {cJ : ClassId} {o : Nat} {S : ks_T} {f : Nat → Int64} {av : List Value} : FrameBlind (va_Pc av (lo_p G cJ o S f)) := fun a U g mk q => ⟨q.1, (kc_xblind a U g mk ⟨q.1, q.2.1⟩).2, q.2.2.1, va_K.moved (u := U) (U := U.calling g mk a) (Vm.Alike.refl U.vm) q.2.2.2.1, q.2.2.2.2.1, lo_N.moved (u := U) (U := U.calling g mk a) (Vm.Alike.refl U.vm) q.2.2.2.2.2⟩
theorem ol_D (cJ : ClassId) (o : Nat) (f : Nat → Int64) : va_D (fun q => q = o) (ol cJ o f) := ⟨fun i j p q hi hj _ => by
    have h1 : i < 1 := (List.getElem?_eq_some_iff.mp hi).1
    have h2 : j < 1 := (List.getElem?_eq_some_iff.mp hj).1
    omega, fun k q hk => by
    have h1 : k < 1 := (List.getElem?_eq_some_iff.mp hk).1
    rw [show k = 0 by omega] at hk
    cases hk
    rfl⟩
theorem ol_kept {D : va_G} {cJ : ClassId} {o : Nat} {f : Nat → Int64} {H H1 : Heap} (h : va_P D vwCl (ol cJ o f) H) (e : H1[o]? = H[o]?) : va_P D vwCl (ol cJ o f) H1 := h.kept (fun k q hk => by
    have h1 : k < 1 := (List.getElem?_eq_some_iff.mp hk).1
    rw [show k = 0 by omega] at hk
    cases hk
    exact e)
section LO
variable {p : Program} {l : Launch} {e : Env} {R : Room} {s : State} {m : MethodId} {args : Array Value} {below : List Frame} {meth : Method} {c : Code} {H : Heap} {locs : List Loc} {cells slots : Nat} {Q : State → Prop}
variable {cc : ByteArray} {pc : Nat} {ls : Array Slot} {rest st0 : List Value} {G : kg_T} {S : ks_T} {D : va_G} {cJ : ClassId} {o : Nat} {f : Nat → Int64}
theorem lo_st (hx : p.tables.exec = Jvm.exec) (hb : c.code = cc) (hK : va_K D vwCl [(cJ, .long)] s) (hP : va_P D vwCl (ol cJ o f) H) {x : Int64} (hdg : decode cc pc = .ok (.lastore, 1))
    (kk : ∀ (H1 : Heap) (f1 : Nat → Int64), f1 0 = x → va_P D vwCl (ol cJ o f1) H1 → H1.size = H.size → (∀ q : Nat, q ≠ o → H1[q]? = H[q]?) → W p l e R s m args below meth c H1 (locs ++ [⟨o, (nI 0).toNatClampNeg⟩]) cells slots Q (F0 m (pc + 1) ls rest)) : W p l e R s m args below meth c H locs cells slots Q (F0 m pc ls (.long x :: .int (nI 0) :: .ref o :: rest)) := by
  have hin : vp_in (nI 0) 1 := vp_in_nI (by omega) (by omega)
  refine W.last hx hb (hP 0 _ rfl) ((hK.2 0 _ rfl).1 1 (fun j => .long (f j))) (fun q => by cases q) (by show ¬ (nI 0 < 0 ∨ (arrV _ _ _).slots.size ≤ _); rw [arrV_size]; exact hin) rfl rfl hdg fun H1 e z oq => ?_
  have ha : (ol cJ o f)[0]? = some (o, .inl (cJ, 1, .inr (.inl f))) := rfl
  refine kk H1 (vp_updL f (nI 0).toNatClampNeg x) (by rw [nI_clamp (by omega)]; exact if_pos rfl) (show va_P D vwCl ((ol cJ o f).set 0 (o, .inl (cJ, 1, .inr (.inl (vp_updL f (nI 0).toNatClampNeg x))))) H1 from hP.set (ol_D cJ o f) ha ?_ oq) z oq
  show H1[o]? = some (vp_cell _ _)
  rw [e]
  rw [vp_cell_l, vp_cell_l, arrV_store]
  congr 2
  funext q
  by_cases hq : q = (nI 0).toNatClampNeg
  · subst hq
    simp [updV, vp_updL]
  · simp [updV, vp_updL, hq]
/-- the end of a wrapper -/
theorem lo_ret {post : Int32 → ks_T × (Nat → Int64) → Prop} {v : Int32} {mc ms : Nat} (hx : p.tables.exec = Jvm.exec) (hb : c.code = cc) (hr : meth.sig.returnType = some .int) (hlocks : meth.locks = false) (hP : va_P (kg_D G) vwCl (kc_L G S) H) (hD : va_D (kg_A G) (kc_L G S)) (hO : va_P (kg_D G) vwCl (ol cJ o f) H) (hS : va_S (lo_A G o) s.heap H locs) (hp : post v (S, f)) (hdg : decode cc pc = .ok (.ireturn, 1)) (hc : cells ≤ mc) (hs : slots ≤ ms) : W p l e R s m args below meth c H locs cells slots (MQ below (va_Qi post (lo_q G cJ o) (lo_A G o)) args s mc ms (lo_A G o)) (F0 m pc ls [.int v]) :=
  W.widen hc hs (W.iret (v := v) hx hb hr (fun t ht hW => ⟨⟨v, (S, f), rfl, hp, ⟨by rw [ht]; exact hP, hD⟩, by rw [ht]; exact hO⟩, hS.F ht⟩) hS.2.2 hdg hlocks)
theorem lo_S (h : va_S (kg_A G) s.heap H locs) : va_S (lo_A G o) s.heap H locs := ⟨h.1, fun q h1 h2 => h.2.1 q h1 (fun w => h2 (Or.inl w)), fun z hz => Or.inl (h.2.2 z hz)⟩
theorem lo_keep (hO : va_P D vwCl (ol cJ o f) s.heap) (hno : ¬ kg_A G o) (h : va_S (kg_A G) s.heap H locs) : va_P D vwCl (ol cJ o f) H := ol_kept hO (h.2.1 o ((hO 0 _ rfl).lt) hno)
theorem lo_put (h : va_P (kg_D G) vwCl (kc_L G S) H) (hD : va_D (kg_A G) (kc_L G S)) (hno : ¬ kg_A G o) {H1 : Heap} (oq : ∀ q : Nat, q ≠ o → H1[q]? = H[q]?) : va_P (kg_D G) vwCl (kc_L G S) H1 := h.kept (fun k q hk => oq q.1 (fun e => hno (by rw [← e]; exact hD.2 k q hk)))
end LO
