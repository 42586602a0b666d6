/-! the class's state, as numbers: pages of a row plus one (0: not there), the frame of a page, a frame's cells, a frame's holders, and the three rows of scratch -/
abbrev ks_T : Type := (Nat → Nat) × (Nat → Nat → Nat) × (Nat → Nat → Int32) × (Nat → Nat) × (Nat → Int32) × (Nat → Int32) × (Nat → Int32)
def ks_P (S : ks_T) : Nat → Nat := S.1
def ks_F (S : ks_T) : Nat → Nat → Nat := S.2.1
def ks_C (S : ks_T) : Nat → Nat → Int32 := S.2.2.1
def ks_H (S : ks_T) : Nat → Nat := S.2.2.2.1
def ks_A (S : ks_T) : Nat → Int32 := S.2.2.2.2.1
def ks_O (S : ks_T) : Nat → Int32 := S.2.2.2.2.2.1
def ks_K (S : ks_T) : Nat → Int32 := S.2.2.2.2.2.2
def ks_uN (f : Nat → Nat) (k x : Nat) : Nat → Nat := fun j => if j = k then x else f j
def ks_uC (f : Nat → Nat → Int32) (a b : Nat) (x : Int32) : Nat → Nat → Int32 := fun i j => if i = a ∧ j = b then x else f i j
def ks_sP (S : ks_T) (r x : Nat) : ks_T := (ks_uN (ks_P S) r x, ks_F S, ks_C S, ks_H S, ks_A S, ks_O S, ks_K S)
def ks_sF (S : ks_T) (r p g : Nat) : ks_T := (ks_P S, cn_u (ks_F S) r p g, ks_C S, ks_H S, ks_A S, ks_O S, ks_K S)
def ks_sC (S : ks_T) (f c : Nat) (v : Int32) : ks_T := (ks_P S, ks_F S, ks_uC (ks_C S) f c v, ks_H S, ks_A S, ks_O S, ks_K S)
def ks_sH (S : ks_T) (f x : Nat) : ks_T := (ks_P S, ks_F S, ks_C S, ks_uN (ks_H S) f x, ks_A S, ks_O S, ks_K S)
def ks_sA (S : ks_T) (i : Nat) (v : Int32) : ks_T := (ks_P S, ks_F S, ks_C S, ks_H S, upd (ks_A S) i v, ks_O S, ks_K S)
def ks_sO (S : ks_T) (i : Nat) (v : Int32) : ks_T := (ks_P S, ks_F S, ks_C S, ks_H S, ks_A S, upd (ks_O S) i v, ks_K S)
def ks_sK (S : ks_T) (i : Nat) (v : Int32) : ks_T := (ks_P S, ks_F S, ks_C S, ks_H S, ks_A S, ks_O S, upd (ks_K S) i v)
/-- a row's entry of pagesOf -/
def ks_e (x : Nat) : Int32 := if x = 0 then -1 else nI (x - 1)
/-- the arrays of ints by their numbers: 0 pagesOf, 1 holdersOf, 2 carried, 3 ownerOf, 4 keeperOf, 5 + r the row r of frameOf, 45 + f the row f of cellsOf -/
def kc_d (S : ks_T) (k j : Nat) : Int32 :=
  if k = 0 then ks_e (ks_P S j) else if k = 1 then nI (ks_H S j) else if k = 2 then ks_A S j else if k = 3 then ks_O S j else if k = 4 then ks_K S j else if k < 45 then nI (ks_F S (k - 5) j) else ks_C S (k - 45) j
def kc_n (k : Nat) : Nat := if k = 0 then 40 else if k = 1 then 201 else if k = 2 then 32 else if k = 3 then 201 else if k = 4 then 201 else if k < 45 then 32 else 8
theorem kc_dF (S : ks_T) {r : Nat} (p : Nat) (hr : r < 40) : kc_d S (5 + r) p = nI (ks_F S r p) := by
  unfold kc_d
  rw [if_neg (by omega), if_neg (by omega), if_neg (by omega), if_neg (by omega), if_neg (by omega), if_pos (by omega)]
  congr 2
  omega
theorem kc_dC (S : ks_T) (f c : Nat) : kc_d S (45 + f) c = ks_C S f c := by
  unfold kc_d
  rw [if_neg (by omega), if_neg (by omega), if_neg (by omega), if_neg (by omega), if_neg (by omega), if_neg (by omega)]
  congr 1
  omega
theorem kc_nF {r : Nat} (hr : r < 40) : kc_n (5 + r) = 32 := by
  unfold kc_n
  rw [if_neg (by omega), if_neg (by omega), if_neg (by omega), if_neg (by omega), if_neg (by omega), if_pos (by omega)]
theorem kc_nC (f : Nat) : kc_n (45 + f) = 8 := by
  unfold kc_n
  rw [if_neg (by omega), if_neg (by omega), if_neg (by omega), if_neg (by omega), if_neg (by omega), if_neg (by omega)]
/-- where the class's cells lie: the object, frameOf, cellsOf, the arrays of ints; the tables' numbers; the classes of int[] and int[][] -/
abbrev kg_T : Type := Nat × Nat × Nat × (Nat → Nat) × va_G × ClassId × ClassId
def kg_h (G : kg_T) : Nat := G.1
def kg_f (G : kg_T) : Nat := G.2.1
def kg_c (G : kg_T) : Nat := G.2.2.1
def kg_a (G : kg_T) : Nat → Nat := G.2.2.2.1
def kg_D (G : kg_T) : va_G := G.2.2.2.2.1
def kg_I (G : kg_T) : ClassId := G.2.2.2.2.2.1
def kg_J (G : kg_T) : ClassId := G.2.2.2.2.2.2
def kc_f (G : kg_T) : List Value := [.ref (kg_a G 0), .ref (kg_f G), .ref (kg_c G), .ref (kg_a G 1), .ref (kg_a G 2), .ref (kg_a G 3), .ref (kg_a G 4)]
def kc_R (G : kg_T) (S : ks_T) : va_W := (List.range 246).map (fun k => (kg_a G k, .inl (kg_I G, kc_n k, .inl (kc_d S k))))
def kc_L (G : kg_T) (S : ks_T) : va_W := (kg_h G, .inr (0, kc_f G)) :: (kg_f G, .inl (kg_J G, 40, .inr (.inr (.inr (.inr (fun i => some (kg_a G (5 + i)))))))) :: (kg_c G, .inl (kg_J G, 201, .inr (.inr (.inr (.inr (fun i => some (kg_a G (45 + i)))))))) :: kc_R G S
def kg_A (G : kg_T) : Nat → Prop := fun q => q = kg_h G ∨ q = kg_f G ∨ q = kg_c G ∨ ∃ k, k < 246 ∧ q = kg_a G k
def kc_K (G : kg_T) (U : State) : Prop := va_K (kg_D G) vwCl [(kg_I G, .int), (kg_J G, .array .int)] U
/-- the cells hold the state S; they are apart; since H0 nothing outside A has changed -/
def kc_at (G : kg_T) (A : Nat → Prop) (H0 : Heap) (S : ks_T) (H : Heap) (locs : List Loc) : Prop := va_P (kg_D G) vwCl (kc_L G S) H ∧ va_D A (kc_L G S) ∧ va_S A H0 H locs
theorem kc_pos (G : kg_T) (S : ks_T) {k : Nat} (hk : k < 246) : (kc_L G S)[3 + k]? = some (kg_a G k, .inl (kg_I G, kc_n k, .inl (kc_d S k))) := by
  have e : (kc_L G S)[3 + k]? = (kc_R G S)[k]? := by
    rw [show 3 + k = k + 1 + 1 + 1 by omega]
    rfl
  rw [e]
  unfold kc_R
  rw [List.getElem?_map, List.getElem?_range hk]
  rfl
theorem kc_set {G : kg_T} {S S' : ks_T} {k : Nat} (hk : k < 246) {f : Nat → Int32} (h1 : f = kc_d S' k) (h2 : ∀ j, j < 246 → j ≠ k → kc_d S' j = kc_d S j) : (kc_L G S).set (3 + k) (kg_a G k, .inl (kg_I G, kc_n k, .inl f)) = kc_L G S' := by
  subst h1
  rw [show 3 + k = k + 1 + 1 + 1 by omega]
  show _ :: _ :: _ :: (kc_R G S).set k _ = _ :: _ :: _ :: kc_R G S'
  congr 3
  apply List.ext_getElem?
  intro j
  by_cases hj : j = k
  · subst hj
    rw [List.getElem?_set_self (by unfold kc_R; simp; exact hk)]
    unfold kc_R
    rw [List.getElem?_map, List.getElem?_range hk]
    rfl
  · rw [List.getElem?_set_ne (fun z => hj z.symm)]
    unfold kc_R
    rw [List.getElem?_map, List.getElem?_map]
    by_cases hl : j < 246
    · rw [List.getElem?_range hl]
      show some (kg_a G j, Sum.inl (kg_I G, kc_n j, Sum.inl (kc_d S j))) = some (kg_a G j, Sum.inl (kg_I G, kc_n j, Sum.inl (kc_d S' j)))
      rw [h2 j hl hj]
    · rw [List.getElem?_eq_none (by simp; omega)]
      rfl
