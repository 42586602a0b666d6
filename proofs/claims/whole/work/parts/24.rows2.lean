/-! rows: a frame's cells copied; one array of the class changed by a callee; who owns a frame -/
theorem kc_cell {G : kg_T} {A : Nat → Prop} {S S' : ks_T} {H H1 : Heap} {k : Nat} (hk : k < 246) (hP : va_P (kg_D G) vwCl (kc_L G S) H) (hD : va_D A (kc_L G S)) (hkeep : ∀ q : Nat, q < H.size → q ≠ kg_a G k → H1[q]? = H[q]?) (hnew : H1[kg_a G k]? = some (vp_cell (kg_I G) (kc_n k, .inl (kc_d S' k)))) (h2 : ∀ j, j < 246 → j ≠ k → kc_d S' j = kc_d S j) :
    va_P (kg_D G) vwCl (kc_L G S') H1 ∧ va_D A (kc_L G S') := by
  have e := kc_set (G := G) (S := S) (S' := S') hk rfl h2
  have hp := kc_pos G S hk
  rw [← e]
  refine ⟨fun i q hq => ?_, hD.set hp⟩
  by_cases hi : i = 3 + k
  · subst hi
    rw [List.getElem?_set_self (List.getElem?_eq_some_iff.mp hp).1] at hq
    cases hq
    exact hnew
  · rw [List.getElem?_set_ne (fun z => hi z.symm)] at hq
    exact (hP i q hq).kept (hkeep q.1 ((hP i q hq).lt) (fun z => hi (hD.1 i (3 + k) q _ hq hp z)))
section KR2
variable {p : Program} {l : Launch} {e : Env} {R : Room} {s : State} {m : MethodId} {args : Array Value} {below : List Frame} {meth : Method} {c : Code} {H : Heap} {locs : List Loc} {cells slots : Nat} {Q : State → Prop}
variable {cc : ByteArray} {pc : Nat} {ls : Array Slot} {rest : List Value} {G : kg_T} {S : ks_T} {A : Nat → Prop} {H0 : Heap}
theorem kr_copy (hx : p.tables.exec = Jvm.exec) (hb : c.code = cc) (hml : c.maxLocals = ls.size) {own : String} {index : Nat} (hown : s.vm.findClass own = some m.cls) (hlink : (Cond.methodLink own index arraycopyName).before args s = true) (hnat : (Cond.native arraycopyName).before args s = true) (hstat : (Cond.static arraycopyName).before args s = true) (hini : (Cond.initialized "java/lang/System").before args s = true)
    (hK : kc_K G s) (hC : kc_at G A H0 S H locs) {f g : Nat} (hf : f < 201) (hg : g < 201) (hframes : 1 ≤ R.frames) (hlocals : (rest.map fun v => v.category).sum + (nativeFrameWords "java/lang/System" "arraycopy" 5 + 11) ≤ R.locals) (hdg : decode cc pc = .ok (.invokestatic index, 3))
    (kk : ∀ (H1 : Heap) (locs1 : List Loc), kc_at G A H0 (ks_cp S f g) H1 locs1 → W p l e R s m args below meth c H1 locs1 cells slots Q (F0 m (pc + 3) ls rest)) :
    W p l e R s m args below meth c H locs cells slots Q (F0 m pc ls (.int (nI 8) :: .int (nI 0) :: .ref (kg_a G (45 + g)) :: .int (nI 0) :: .ref (kg_a G (45 + f)) :: rest)) := by
  have e0 : (nI 0).toNatClampNeg = 0 := nI_clamp (by omega)
  have e8 : (nI 8).toNatClampNeg = 8 := nI_clamp (by omega)
  refine va_copyi (ty := .int) hx hb hml hown hlink hnat hstat hini hK hC.1 hC.2.1 hC.2.2 (3 + (45 + f)) (3 + (45 + g)) 0 0 (kc_pos G S (by omega)) (kc_pos G S (by omega)) rfl rfl rfl (nI_pos (by omega)) (nI_pos (by omega)) (nI_pos (by omega)) (by rw [e0, e8, kc_nC]; omega) (by rw [e0, e8, kc_nC]; omega) (fun _ _ => rfl) hframes hlocals hdg (fun H1 locs1 hP hD hS => ?_)
  rw [e0, e8] at hP hD
  have h1 : va_cpy (kc_d S (45 + f)) (kc_d S (45 + g)) 0 0 8 = kc_d (ks_cp S f g) (45 + g) := by
    funext j
    rw [kc_dC]
    show va_cpy _ _ 0 0 8 j = (if g = g ∧ j < 8 then ks_C S f j else ks_C S g j)
    unfold va_cpy
    by_cases hj : j < 8
    · rw [if_pos ⟨by omega, by omega⟩, if_pos ⟨rfl, hj⟩, kc_dC]
      congr 1
      omega
    · rw [if_neg (by omega), if_neg (fun z => hj z.2), kc_dC]
  have h2 : ∀ j, j < 246 → j ≠ 45 + g → kc_d (ks_cp S f g) j = kc_d S j := fun j _ hj => kc_ext (fun _ _ => rfl) (fun _ _ => rfl) (fun _ _ => rfl) (fun _ _ => rfl) (fun _ _ => rfl) (fun _ _ _ _ => rfl) (fun a ha i => if_neg (fun z => hj (by rw [ha, z.1])))
  rw [kc_set (by omega) h1 h2] at hP hD
  exact kk H1 locs1 ⟨hP, hD, hS⟩
end KR2
/-- pages looked at before the page p of the row r -/
def ow_in (S : ks_T) (r p a b : Nat) : Prop := (a < r ∧ b + 1 < ks_P S a) ∨ (a = r ∧ b < p)
/-- x tells which rows the frame f is in, of the pages Z: -1 none, a row's number, -2 several -/
def ow_ok (F : Nat → Nat → Nat) (Z : Nat → Nat → Prop) (f : Nat) (x : Int32) : Prop :=
  (x = -1 ∧ ∀ a b, Z a b → F a b ≠ f) ∨ (∃ a b, a < 40 ∧ x = nI a ∧ Z a b ∧ F a b = f ∧ ∀ a' b', Z a' b' → F a' b' = f → a' = a) ∨ (x = -2 ∧ ∃ a b a' b', Z a b ∧ F a b = f ∧ Z a' b' ∧ F a' b' = f ∧ a ≠ a')
theorem ow_nI1 {a : Nat} (h : a < 40) : nI a ≠ -1 := fun e => by
  have h1 : ¬ nI a < 0 := nI_pos (by omega)
  rw [e] at h1
  exact h1 (by decide)
theorem ow_ok.of {F : Nat → Nat → Nat} {Z Z' : Nat → Nat → Prop} {f : Nat} {x : Int32} (h : ow_ok F Z f x) (e : ∀ a b, F a b = f → (Z a b ↔ Z' a b)) : ow_ok F Z' f x := by
  rcases h with ⟨h1, h2⟩ | ⟨a, b, h1, h2, h3, h4, h5⟩ | ⟨h1, a, b, a', b', h2, h3, h4, h5, h6⟩
  · exact Or.inl ⟨h1, fun a b hz hf => h2 a b ((e a b hf).mpr hz) hf⟩
  · exact Or.inr (Or.inl ⟨a, b, h1, h2, (e a b h4).mp h3, h4, fun a' b' hz hf => h5 a' b' ((e a' b' hf).mpr hz) hf⟩)
  · exact Or.inr (Or.inr ⟨h1, a, b, a', b', (e a b h3).mp h2, h3, (e a' b' h5).mp h4, h5, h6⟩)
theorem ow_step {S : ks_T} {r p : Nat} {o : Nat → Int32} (hr : r < 40) (h : ∀ f, f < 201 → ow_ok (ks_F S) (ow_in S r p) f (o f)) (hf : ks_F S r p < 201) {v : Int32} (hv : v = if o (ks_F S r p) = -1 ∨ o (ks_F S r p) = nI r then nI r else -2) : ∀ f, f < 201 → ow_ok (ks_F S) (ow_in S r (p + 1)) f (upd o (ks_F S r p) v f) := by
  intro f hf9
  have hin : ow_in S r (p + 1) r p := Or.inr ⟨rfl, by omega⟩
  have hup : ∀ a b, ow_in S r p a b → ow_in S r (p + 1) a b := fun a b z => z.elim Or.inl (fun z => Or.inr ⟨z.1, by omega⟩)
  have hdn : ∀ a b, ow_in S r (p + 1) a b → ow_in S r p a b ∨ (a = r ∧ b = p) := fun a b z => by
    rcases z with z | z
    · exact Or.inl (Or.inl z)
    · by_cases e : b = p
      · exact Or.inr ⟨z.1, e⟩
      · exact Or.inl (Or.inr ⟨z.1, by omega⟩)
  by_cases e : f = ks_F S r p
  · have hu : upd o (ks_F S r p) v f = v := by rw [e]; exact if_pos rfl
    rw [hu, hv]
    have h9 := h f hf9
    rw [e] at h9
    rw [e]
    rcases h9 with ⟨h1, h2⟩ | ⟨a, b, h1, h2, h3, h4, h5⟩ | ⟨h1, a, b, a', b', h2, h3, h4, h5, h6⟩
    · rw [if_pos (Or.inl h1)]
      refine Or.inr (Or.inl ⟨r, p, hr, rfl, hin, rfl, fun a' b' hz hf' => ?_⟩)
      rcases hdn a' b' hz with z | z
      · exact absurd hf' (h2 a' b' z)
      · exact z.1
    · by_cases ea : a = r
      · rw [if_pos (Or.inr (by rw [h2, ea]))]
        refine Or.inr (Or.inl ⟨r, p, hr, rfl, hin, rfl, fun a' b' hz hf' => ?_⟩)
        rcases hdn a' b' hz with z | z
        · rw [h5 a' b' z hf', ea]
        · exact z.1
      · rw [if_neg (fun z => z.elim (fun z => ow_nI1 h1 (h2.symm.trans z)) (fun z => ea ((nI_eq (by omega) (by omega)).mp (h2.symm.trans z))))]
        exact Or.inr (Or.inr ⟨rfl, a, b, r, p, hup a b h3, h4, hin, rfl, ea⟩)
    · have hn : ¬ (o (ks_F S r p) = -1 ∨ o (ks_F S r p) = nI r) := by
        rw [h1]
        intro z
        rcases z with z | z
        · exact absurd z (by decide)
        · have q1 : ¬ nI r < 0 := nI_pos (by omega)
          rw [← z] at q1
          exact q1 (by decide)
      rw [if_neg hn]
      exact Or.inr (Or.inr ⟨rfl, a, b, a', b', hup a b h2, h3, hup a' b' h4, h5, h6⟩)
  · have hu : upd o (ks_F S r p) v f = o f := if_neg e
    rw [hu]
    refine (h f hf9).of (fun a b hab => ⟨hup a b, fun z => ?_⟩)
    rcases hdn a b z with z | z
    · exact z
    · exact absurd (by rw [← hab, z.1, z.2]) e
theorem ow_next {S : ks_T} {r k : Nat} (hk : ∀ b, b + 1 < ks_P S r ↔ b < k) (a b : Nat) : ow_in S r k a b ↔ ow_in S (r + 1) 0 a b := by
  unfold ow_in
  constructor
  · intro z
    rcases z with z | z
    · exact Or.inl ⟨by omega, z.2⟩
    · exact Or.inl ⟨by omega, by rw [z.1]; exact (hk b).mpr z.2⟩
  · intro z
    rcases z with z | z
    · by_cases e : a = r
      · exact Or.inr ⟨e, (hk b).mp (by rw [← e]; exact z.2)⟩
      · exact Or.inl ⟨by omega, z.2⟩
    · omega
