/-! the reference's state, as numbers: what was thrown; there; pages; the frame of a page plus one (0: none); cells; kept -/
abbrev ms_T : Type := Nat × (Nat → Nat) × (Nat → Nat) × (Nat → Nat) × (Nat → Int32) × (Nat → Int32)
def ms_t (S : ms_T) : Nat := S.1
def ms_B (S : ms_T) : Nat → Nat := S.2.1
def ms_P (S : ms_T) : Nat → Nat := S.2.2.1
def ms_F (S : ms_T) : Nat → Nat := S.2.2.2.1
def ms_C (S : ms_T) : Nat → Int32 := S.2.2.2.2.1
def ms_K (S : ms_T) : Nat → Int32 := S.2.2.2.2.2
def ms_st (S : ms_T) (x : Nat) : ms_T := (x, ms_B S, ms_P S, ms_F S, ms_C S, ms_K S)
def ms_sB (S : ms_T) (k x : Nat) : ms_T := (ms_t S, ks_uN (ms_B S) k x, ms_P S, ms_F S, ms_C S, ms_K S)
def ms_sP (S : ms_T) (k x : Nat) : ms_T := (ms_t S, ms_B S, ks_uN (ms_P S) k x, ms_F S, ms_C S, ms_K S)
def ms_sF (S : ms_T) (k x : Nat) : ms_T := (ms_t S, ms_B S, ms_P S, ks_uN (ms_F S) k x, ms_C S, ms_K S)
def ms_sC (S : ms_T) (k : Nat) (x : Int32) : ms_T := (ms_t S, ms_B S, ms_P S, ms_F S, upd (ms_C S) k x, ms_K S)
def ms_sK (S : ms_T) (k : Nat) (x : Int32) : ms_T := (ms_t S, ms_B S, ms_P S, ms_F S, ms_C S, upd (ms_K S) k x)
abbrev mg_T : Type := Nat × (Nat → Nat) × va_G × ClassId × ClassId
def mg_h (G : mg_T) : Nat := G.1
def mg_a (G : mg_T) : Nat → Nat := G.2.1
def mg_D (G : mg_T) : va_G := G.2.2.1
def mg_I (G : mg_T) : ClassId := G.2.2.2.1
def mg_Z (G : mg_T) : ClassId := G.2.2.2.2
def mc_f (G : mg_T) (S : ms_T) : List Value := [.int (nI (ms_t S)), .ref (mg_a G 0), .ref (mg_a G 1), .ref (mg_a G 2), .ref (mg_a G 3), .ref (mg_a G 4)]
def mc_L (G : mg_T) (S : ms_T) : va_W := [(mg_h G, .inr (1, mc_f G S)), (mg_a G 0, .inl (mg_Z G, 40, .inl (fun j => nI (ms_B S j)))), (mg_a G 1, .inl (mg_I G, 40, .inl (fun j => nI (ms_P S j)))), (mg_a G 2, .inl (mg_I G, 1280, .inl (fun j => ks_e (ms_F S j)))), (mg_a G 3, .inl (mg_I G, 1600, .inl (ms_C S))), (mg_a G 4, .inl (mg_I G, 32, .inl (ms_K S)))]
def mg_A (G : mg_T) : Nat → Prop := fun q => q = mg_h G ∨ ∃ k, k < 5 ∧ q = mg_a G k
def mc_K (G : mg_T) (U : State) : Prop := va_K (mg_D G) vwCl [(mg_I G, .int), (mg_Z G, .boolean)] U
def mc_at (G : mg_T) (A : Nat → Prop) (H0 : Heap) (S : ms_T) (H : Heap) (locs : List Loc) : Prop := va_P (mg_D G) vwCl (mc_L G S) H ∧ va_D A (mc_L G S) ∧ va_S A H0 H locs
section MR
variable {p : Program} {l : Launch} {e : Env} {R : Room} {s : State} {m : MethodId} {args : Array Value} {below : List Frame} {meth : Method} {c : Code} {H : Heap} {locs : List Loc} {cells slots : Nat} {Q : State → Prop}
variable {cc : ByteArray} {pc : Nat} {ls : Array Slot} {rest : List Value} {G : mg_T} {S : ms_T} {A : Nat → Prop} {H0 : Heap}
theorem mr_get (hx : p.tables.exec = Jvm.exec) (hb : c.code = cc) {own : String} {index : Nat} {Ts : List Cond} (hts : ∀ w ∈ Ts, w.before args s = true) (hin : ∀ w ∈ u_ws RX1 TX1 6, w ∈ Ts) (hown : s.vm.findClass own = some m.cls) (hK : mc_K G s) (hC : mc_at G A H0 S H locs) (k : Nat) (hk : k < 6) (hlink : (Cond.fieldLink own index RX1 (TX1 k).2.1 (TX1 k).2.2.1).before args s = true) (hsm : (TX1 k).1 = RX1) {v : Value} (hv : (mc_f G S)[k]? = some v) (hdg : decode cc pc = .ok (.getfield index, 3))
    (kk : W p l e R s m args below meth c H locs cells slots Q (F0 m (pc + 3) ls (v :: rest))) : W p l e R s m args below meth c H locs cells slots Q (F0 m pc ls (.ref (mg_h G) :: rest)) :=
  va_get (C := RX1) (T := TX1) (N := 6) (ci := 1) hx hb hts hin hown hK hC.1 0 rfl rfl k hk hlink (fun x h9 => by rw [← hsm]; exact h9) hv hdg kk
theorem mr_put (hx : p.tables.exec = Jvm.exec) (hb : c.code = cc) {own : String} {index : Nat} {Ts : List Cond} (hts : ∀ w ∈ Ts, w.before args s = true) (hin : ∀ w ∈ u_ws RX1 TX1 6, w ∈ Ts) (hown : s.vm.findClass own = some m.cls) (hK : mc_K G s) (hC : mc_at G A H0 S H locs) (hlink : (Cond.fieldLink own index RX1 (TX1 0).2.1 (TX1 0).2.2.1).before args s = true) {x : Nat} (hdg : decode cc pc = .ok (.putfield index, 3))
    (kk : ∀ (H1 : Heap) (locs1 : List Loc), mc_at G A H0 (ms_st S x) H1 locs1 → W p l e R s m args below meth c H1 locs1 cells slots Q (F0 m (pc + 3) ls rest)) : W p l e R s m args below meth c H locs cells slots Q (F0 m pc ls (.int (nI x) :: .ref (mg_h G) :: rest)) :=
  va_put (D := mg_D G) (ci := 1) (v := .int (nI x)) (ty := .int) (C := RX1) (T := TX1) (N := 6) hx hb hts hin tyX1 tyX1_ok nmX1 hown hK hC.1 hC.2.1 hC.2.2 0 rfl rfl 0 (by decide) hlink (fun x9 h9 => h9) rfl (by decide +kernel) rfl rfl (Nat.le_of_ble_eq_true rfl) hdg (fun H1 locs1 hP hD hS => kk H1 locs1 ⟨hP, hD, hS⟩)
theorem mr_upn (f : Nat → Nat) (i y : Nat) : upd (fun j => nI (f j)) i (nI y) = fun j => nI (ks_uN f i y j) := by
  funext j
  unfold upd ks_uN
  by_cases h : j = i
  · rw [if_pos h, if_pos h]
  · rw [if_neg h, if_neg h]
theorem mr_upe (f : Nat → Nat) (i y : Nat) : upd (fun j => ks_e (f j)) i (ks_e y) = fun j => ks_e (ks_uN f i y j) := by
  funext j
  unfold upd ks_uN
  by_cases h : j = i
  · rw [if_pos h, if_pos h]
  · rw [if_neg h, if_neg h]
theorem mr_ldB (hx : p.tables.exec = Jvm.exec) (hb : c.code = cc) (hK : mc_K G s) (hC : mc_at G A H0 S H locs) {i : Nat} (hi : i < 40) (hdg : decode cc pc = .ok (.baload, 1))
    (kk : W p l e R s m args below meth c H locs cells slots Q (F0 m (pc + 1) ls (.int (nI (ms_B S i)) :: rest))) : W p l e R s m args below meth c H locs cells slots Q (F0 m pc ls (.int (nI i) :: .ref (mg_a G 0) :: rest)) := by
  refine va_zald hx hb hK hC.1 1 1 rfl rfl (vp_in_nI hi (by omega)) hdg ?_
  rw [nI_clamp (by omega)]
  exact kk
theorem mr_ldP (hx : p.tables.exec = Jvm.exec) (hb : c.code = cc) (hK : mc_K G s) (hC : mc_at G A H0 S H locs) {i : Nat} (hi : i < 40) (hdg : decode cc pc = .ok (.iaload, 1))
    (kk : W p l e R s m args below meth c H locs cells slots Q (F0 m (pc + 1) ls (.int (nI (ms_P S i)) :: rest))) : W p l e R s m args below meth c H locs cells slots Q (F0 m pc ls (.int (nI i) :: .ref (mg_a G 1) :: rest)) := by
  refine va_iald hx hb hK hC.1 2 0 rfl rfl (vp_in_nI hi (by omega)) hdg ?_
  rw [nI_clamp (by omega)]
  exact kk
theorem mr_ldF (hx : p.tables.exec = Jvm.exec) (hb : c.code = cc) (hK : mc_K G s) (hC : mc_at G A H0 S H locs) {i : Nat} (hi : i < 1280) (hdg : decode cc pc = .ok (.iaload, 1))
    (kk : W p l e R s m args below meth c H locs cells slots Q (F0 m (pc + 1) ls (.int (ks_e (ms_F S i)) :: rest))) : W p l e R s m args below meth c H locs cells slots Q (F0 m pc ls (.int (nI i) :: .ref (mg_a G 2) :: rest)) := by
  refine va_iald hx hb hK hC.1 3 0 rfl rfl (vp_in_nI hi (by omega)) hdg ?_
  rw [nI_clamp (by omega)]
  exact kk
theorem mr_ldC (hx : p.tables.exec = Jvm.exec) (hb : c.code = cc) (hK : mc_K G s) (hC : mc_at G A H0 S H locs) {i : Nat} (hi : i < 1600) (hdg : decode cc pc = .ok (.iaload, 1))
    (kk : W p l e R s m args below meth c H locs cells slots Q (F0 m (pc + 1) ls (.int (ms_C S i) :: rest))) : W p l e R s m args below meth c H locs cells slots Q (F0 m pc ls (.int (nI i) :: .ref (mg_a G 3) :: rest)) := by
  refine va_iald hx hb hK hC.1 4 0 rfl rfl (vp_in_nI hi (by omega)) hdg ?_
  rw [nI_clamp (by omega)]
  exact kk
theorem mr_ldK (hx : p.tables.exec = Jvm.exec) (hb : c.code = cc) (hK : mc_K G s) (hC : mc_at G A H0 S H locs) {i : Nat} (hi : i < 32) (hdg : decode cc pc = .ok (.iaload, 1))
    (kk : W p l e R s m args below meth c H locs cells slots Q (F0 m (pc + 1) ls (.int (ms_K S i) :: rest))) : W p l e R s m args below meth c H locs cells slots Q (F0 m pc ls (.int (nI i) :: .ref (mg_a G 4) :: rest)) := by
  refine va_iald hx hb hK hC.1 5 0 rfl rfl (vp_in_nI hi (by omega)) hdg ?_
  rw [nI_clamp (by omega)]
  exact kk
theorem mr_stB (hx : p.tables.exec = Jvm.exec) (hb : c.code = cc) (hK : mc_K G s) (hC : mc_at G A H0 S H locs) {i y : Nat} (hi : i < 40) {x : Int32} (hy : vp_nar .boolean x = nI y) (hdg : decode cc pc = .ok (.bastore, 1))
    (kk : ∀ (H1 : Heap) (locs1 : List Loc), mc_at G A H0 (ms_sB S i y) H1 locs1 → W p l e R s m args below meth c H1 locs1 cells slots Q (F0 m (pc + 1) ls rest)) : W p l e R s m args below meth c H locs cells slots Q (F0 m pc ls (.int x :: .int (nI i) :: .ref (mg_a G 0) :: rest)) := by
  refine va_zast hx hb hK hC.1 hC.2.1 hC.2.2 1 1 rfl rfl (vp_in_nI hi (by omega)) hdg (fun H1 locs1 hP hD hS => ?_)
  have e : (mc_L G S).set 1 (mg_a G 0, .inl (mg_Z G, 40, .inl (upd (fun j => nI (ms_B S j)) i (vp_nar .boolean x)))) = mc_L G (ms_sB S i y) := by
    rw [hy, mr_upn]
    rfl
  rw [nI_clamp (by omega)] at hP hD
  rw [e] at hP hD
  exact kk H1 locs1 ⟨hP, hD, hS⟩
theorem mr_stP (hx : p.tables.exec = Jvm.exec) (hb : c.code = cc) (hK : mc_K G s) (hC : mc_at G A H0 S H locs) {i y : Nat} (hi : i < 40) {x : Int32} (hy : x = nI y) (hdg : decode cc pc = .ok (.iastore, 1))
    (kk : ∀ (H1 : Heap) (locs1 : List Loc), mc_at G A H0 (ms_sP S i y) H1 locs1 → W p l e R s m args below meth c H1 locs1 cells slots Q (F0 m (pc + 1) ls rest)) : W p l e R s m args below meth c H locs cells slots Q (F0 m pc ls (.int x :: .int (nI i) :: .ref (mg_a G 1) :: rest)) := by
  refine va_iast hx hb hK hC.1 hC.2.1 hC.2.2 2 0 rfl rfl (vp_in_nI hi (by omega)) hdg (fun H1 locs1 hP hD hS => ?_)
  have e : (mc_L G S).set 2 (mg_a G 1, .inl (mg_I G, 40, .inl (upd (fun j => nI (ms_P S j)) i x))) = mc_L G (ms_sP S i y) := by
    rw [hy, mr_upn]
    rfl
  rw [nI_clamp (by omega)] at hP hD
  rw [e] at hP hD
  exact kk H1 locs1 ⟨hP, hD, hS⟩
theorem mr_stF (hx : p.tables.exec = Jvm.exec) (hb : c.code = cc) (hK : mc_K G s) (hC : mc_at G A H0 S H locs) {i y : Nat} (hi : i < 1280) {x : Int32} (hy : x = ks_e y) (hdg : decode cc pc = .ok (.iastore, 1))
    (kk : ∀ (H1 : Heap) (locs1 : List Loc), mc_at G A H0 (ms_sF S i y) H1 locs1 → W p l e R s m args below meth c H1 locs1 cells slots Q (F0 m (pc + 1) ls rest)) : W p l e R s m args below meth c H locs cells slots Q (F0 m pc ls (.int x :: .int (nI i) :: .ref (mg_a G 2) :: rest)) := by
  refine va_iast hx hb hK hC.1 hC.2.1 hC.2.2 3 0 rfl rfl (vp_in_nI hi (by omega)) hdg (fun H1 locs1 hP hD hS => ?_)
  have e : (mc_L G S).set 3 (mg_a G 2, .inl (mg_I G, 1280, .inl (upd (fun j => ks_e (ms_F S j)) i x))) = mc_L G (ms_sF S i y) := by
    rw [hy, mr_upe]
    rfl
  rw [nI_clamp (by omega)] at hP hD
  rw [e] at hP hD
  exact kk H1 locs1 ⟨hP, hD, hS⟩
theorem mr_stC (hx : p.tables.exec = Jvm.exec) (hb : c.code = cc) (hK : mc_K G s) (hC : mc_at G A H0 S H locs) {i : Nat} (hi : i < 1600) {x : Int32} (hdg : decode cc pc = .ok (.iastore, 1))
    (kk : ∀ (H1 : Heap) (locs1 : List Loc), mc_at G A H0 (ms_sC S i x) H1 locs1 → W p l e R s m args below meth c H1 locs1 cells slots Q (F0 m (pc + 1) ls rest)) : W p l e R s m args below meth c H locs cells slots Q (F0 m pc ls (.int x :: .int (nI i) :: .ref (mg_a G 3) :: rest)) := by
  refine va_iast hx hb hK hC.1 hC.2.1 hC.2.2 4 0 rfl rfl (vp_in_nI hi (by omega)) hdg (fun H1 locs1 hP hD hS => ?_)
  have e : (mc_L G S).set 4 (mg_a G 3, .inl (mg_I G, 1600, .inl (upd (ms_C S) i x))) = mc_L G (ms_sC S i x) := by
    rfl
  rw [nI_clamp (by omega)] at hP hD
  rw [e] at hP hD
  exact kk H1 locs1 ⟨hP, hD, hS⟩
theorem mr_stK (hx : p.tables.exec = Jvm.exec) (hb : c.code = cc) (hK : mc_K G s) (hC : mc_at G A H0 S H locs) {i : Nat} (hi : i < 32) {x : Int32} (hdg : decode cc pc = .ok (.iastore, 1))
    (kk : ∀ (H1 : Heap) (locs1 : List Loc), mc_at G A H0 (ms_sK S i x) H1 locs1 → W p l e R s m args below meth c H1 locs1 cells slots Q (F0 m (pc + 1) ls rest)) : W p l e R s m args below meth c H locs cells slots Q (F0 m pc ls (.int x :: .int (nI i) :: .ref (mg_a G 4) :: rest)) := by
  refine va_iast hx hb hK hC.1 hC.2.1 hC.2.2 5 0 rfl rfl (vp_in_nI hi (by omega)) hdg (fun H1 locs1 hP hD hS => ?_)
  have e : (mc_L G S).set 5 (mg_a G 4, .inl (mg_I G, 32, .inl (upd (ms_K S) i x))) = mc_L G (ms_sK S i x) := by
    rfl
  rw [nI_clamp (by omega)] at hP hD
  rw [e] at hP hD
  exact kk H1 locs1 ⟨hP, hD, hS⟩
end MR
