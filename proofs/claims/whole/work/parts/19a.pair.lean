/-! PAIRS: the class's method and then the reference's, from what holds between two calls to what holds between two calls -/
/-- what was there before the run stays -/
def Out (μ μ' : pM) : Prop := ∀ a, a < 0 → μ'.2.1 a = μ.2.1 a ∧ μ'.2.2.2 a = μ.2.2.2 a
theorem Out.refl {μ : pM} : Out μ μ := fun _ _ => ⟨rfl, rfl⟩
theorem Out.trans {μ μ' μ'' : pM} (h : Out μ μ') (h' : Out μ' μ'') : Out μ μ'' := fun a ha => ⟨(h' a ha).1.trans (h a ha).1, (h' a ha).2.trans (h a ha).2⟩
theorem Out.F {n n' : Nat} {K : Int → Nat × Nat} {F F' E : Int → Int → Int} : Out (n, K, F, E) (n', K, F', E) := fun _ _ => ⟨rfl, rfl⟩
theorem Out.up {μ : pM} {n : Nat} {K : Int → Nat × Nat} {F E : Int → Int → Int} {a k v : Int} (h : Out μ (n, K, F, E)) (ha : 0 ≤ a) : Out μ (n, K, F, pUp E a k v) := fun b hb => ⟨(h b hb).1, (pUp_an (by omega)).trans (h b hb).2⟩
theorem Out.row {μ : pM} {n : Nat} {K : Int → Nat × Nat} {F E : Int → Int → Int} {a : Int} {g : Int → Int} (h : Out μ (n, K, F, E)) (ha : 0 ≤ a) : Out μ (n, K, F, pRow E a g) := fun b hb => ⟨(h b hb).1, (pRow_ne (by omega)).trans (h b hb).2⟩
theorem Out.onF {μ : pM} {n : Nat} {K : Int → Nat × Nat} {F F' E : Int → Int → Int} (h : Out μ (n, K, F, E)) : Out μ (n, K, F', E) := h
def PostR (LR : tLR) (G : pG) (v : Int) (μ1 : pM) (r' : Option pV) (μ2 : pM) : Prop := r' = some (0, v) ∧ Out μ1 μ2 ∧ InvM LR G μ2
def PostC (LR : tLR) (l : Launch) (G : pG) (d : Nat) (m : pMeth) (bg : Nat × Nat) (as : List pV) (μ : pM) (r : Option pV) (μ1 : pM) : Prop :=
  ∃ v, r = some (0, v) ∧ Out μ μ1 ∧ KS μ1.2.1 ∧ PC l G d m bg ((2, 66) :: as) μ1 (PostR LR G v μ1)
def Pair (LR : tLR) (l : Launch) (G : pG) (dc : Nat) (mc : pMeth) (bc : Nat × Nat) (dr : Nat) (mr : pMeth) (br : Nat × Nat) (as : List pV) : Prop :=
  ∀ n K F E, Inv LR G n K F E → PC l G dc mc bc ((2, 0) :: as) (n, K, F, E) (PostC LR l G dr mr br as (n, K, F, E))
/-- the fields that what holds speaks of -/
def iTab : List (Int × Int) := [(1, 4), (1, 6), (1, 7), (52, 4), (52, 6), (52, 7), (59, 4), (59, 6), (59, 7), (10, 2), (10, 3), (66, 8), (22, 1), (66, 13), (41, 1), (41, 3), (41, 4), (66, 59), (66, 61), (66, 62), (66, 1), (0, 16), (66, 11), (0, 18), (66, 18), (0, 17), (66, 70), (44, 5), (0, 7), (66, 74), (66, 20)]
def FI (F F' : Int → Int → Int) : Prop := (FS F → FS F') ∧ (∀ t ∈ iTab, F' t.1 t.2 = F t.1 t.2) ∧ ∀ a, 105 ≤ a → F' a = F a
def iEs : List Int := [3, 4, 5, 6, 7, 68, 9, 70, 54, 55, 56, 57, 58, 69, 61, 62, 63, 64, 65, 11, 12, 71, 72, 23, 75, 42, 97, 43, 98, 49, 67, 19, 104]
def EI (E E' : Int → Int → Int) : Prop := (ES E → ES E') ∧ (∀ a ∈ iEs, E' a = E a) ∧ (∀ a, 105 ≤ a → E' a = E a) ∧ ∀ a, a < 0 → E' a = E a
theorem FI.refl {F : Int → Int → Int} : FI F F := ⟨id, fun _ _ => rfl, fun _ _ => rfl⟩
theorem EI.refl {E : Int → Int → Int} : EI E E := ⟨id, fun _ _ => rfl, fun _ _ => rfl, fun _ _ => rfl⟩
theorem FI.up {F F' : Int → Int → Int} {a k v : Int} (h : FI F F') (h1 : fTab.all (fun t => !(decide (t.1 = a) && decide (t.2.1 = k))) = true) (h2 : iTab.all (fun t => !(decide (t.1 = a) && decide (t.2 = k))) = true) (h3 : a < 105) : FI F (pUp F' a k v) := by
  refine ⟨fun q => (h.1 q).up h1, fun t ht => ?_, fun b hb => (pUp_an (by omega)).trans (h.2.2 b hb)⟩
  have := List.all_eq_true.mp h2 t ht
  simp at this
  unfold pUp
  rw [if_neg (fun q => this.elim (fun z => z q.1) (fun z => z q.2))]
  exact h.2.1 t ht
theorem EI.up {E E' : Int → Int → Int} {a k v : Int} (h : EI E E') (h1 : eTab.all (fun t => !(decide (t.1 = a))) = true) (h2 : iEs.all (fun t => !(decide (t = a))) = true) (h3 : 0 ≤ a ∧ a < 105) : EI E (pUp E' a k v) := by
  refine ⟨fun q => (h.1 q).up h1, fun b hb => ?_, fun b hb => (pUp_an (by omega)).trans (h.2.2.1 b hb), fun b hb => (pUp_an (by omega)).trans (h.2.2.2 b hb)⟩
  have := List.all_eq_true.mp h2 b hb
  simp at this
  rw [pUp_an this]
  exact h.2.1 b hb
theorem EI.row {E E' : Int → Int → Int} {a : Int} {g : Int → Int} (h : EI E E') (h1 : eTab.all (fun t => !(decide (t.1 = a))) = true) (h2 : iEs.all (fun t => !(decide (t = a))) = true) (h3 : 0 ≤ a ∧ a < 105) : EI E (pRow E' a g) := by
  refine ⟨fun q => (h.1 q).row h1, fun b hb => ?_, fun b hb => (pRow_ne (by omega)).trans (h.2.2.1 b hb), fun b hb => (pRow_ne (by omega)).trans (h.2.2.2 b hb)⟩
  have := List.all_eq_true.mp h2 b hb
  simp at this
  rw [pRow_ne this]
  exact h.2.1 b hb
/-- what holds looks only there -/
theorem Inv.ext {LR : tLR} {G : pG} {n : Nat} {K : Int → Nat × Nat} {F E F' E' : Int → Int → Int} (h : Inv LR G n K F E) (hF : FI F F') (hE : EI E E') : Inv LR G n K F' E' := by
  obtain ⟨⟨h1, h2, h3, h4, h5⟩, h6, h7, h8, h9, h10, h11, h12, h13, h14, h15⟩ := h
  obtain ⟨f1, f2, f3⟩ := hF
  obtain ⟨e1, e2, e3, e4⟩ := hE
  have h5' : XS G K E' := by
    intro w hw
    obtain ⟨a, b⟩ := h5 w hw
    rw [e4 _ a]
    exact ⟨a, b⟩
  have g : ∀ i : Nat, ∀ t, iTab[i]? = some t → F' t.1 t.2 = F t.1 t.2 := fun i t ht => f2 t (List.mem_of_getElem? ht)
  have k : ∀ i : Nat, ∀ a, iEs[i]? = some a → E' a = E a := fun i a ha => e2 a (List.mem_of_getElem? ha)
  have hL : LawAt LR K F' E' = LawAt LR K F E := LawAt.keepP f3 e3
  refine ⟨⟨h1, f1 h2, h3, e1 h4, h5'⟩, ?_⟩
  rw [hL]
  rw [show F' 1 4 = F 1 4 from g 0 (1, 4) rfl, show F' 1 6 = F 1 6 from g 1 (1, 6) rfl, show F' 1 7 = F 1 7 from g 2 (1, 7) rfl,
    show F' 52 4 = F 52 4 from g 3 (52, 4) rfl, show F' 52 6 = F 52 6 from g 4 (52, 6) rfl, show F' 52 7 = F 52 7 from g 5 (52, 7) rfl,
    show F' 59 4 = F 59 4 from g 6 (59, 4) rfl, show F' 59 6 = F 59 6 from g 7 (59, 6) rfl, show F' 59 7 = F 59 7 from g 8 (59, 7) rfl,
    show F' 10 2 = F 10 2 from g 9 (10, 2) rfl, show F' 10 3 = F 10 3 from g 10 (10, 3) rfl, show F' 66 8 = F 66 8 from g 11 (66, 8) rfl,
    show F' 22 1 = F 22 1 from g 12 (22, 1) rfl, show F' 66 13 = F 66 13 from g 13 (66, 13) rfl, show F' 41 1 = F 41 1 from g 14 (41, 1) rfl,
    show F' 41 3 = F 41 3 from g 15 (41, 3) rfl, show F' 41 4 = F 41 4 from g 16 (41, 4) rfl, show F' 66 59 = F 66 59 from g 17 (66, 59) rfl,
    show F' 66 61 = F 66 61 from g 18 (66, 61) rfl, show F' 66 62 = F 66 62 from g 19 (66, 62) rfl, show F' 66 1 = F 66 1 from g 20 (66, 1) rfl,
    show F' 0 16 = F 0 16 from g 21 (0, 16) rfl, show F' 66 11 = F 66 11 from g 22 (66, 11) rfl, show F' 0 18 = F 0 18 from g 23 (0, 18) rfl,
    show F' 66 18 = F 66 18 from g 24 (66, 18) rfl, show F' 0 17 = F 0 17 from g 25 (0, 17) rfl, show F' 66 70 = F 66 70 from g 26 (66, 70) rfl,
    show F' 44 5 = F 44 5 from g 27 (44, 5) rfl, show F' 0 7 = F 0 7 from g 28 (0, 7) rfl, show F' 66 74 = F 66 74 from g 29 (66, 74) rfl, show F' 66 20 = F 66 20 from g 30 (66, 20) rfl]
  rw [k 0 3 rfl, k 1 4 rfl, k 2 5 rfl, k 3 6 rfl, k 4 7 rfl, k 5 68 rfl, k 6 9 rfl, k 7 70 rfl, k 8 54 rfl, k 9 55 rfl, k 10 56 rfl, k 11 57 rfl, k 12 58 rfl, k 13 69 rfl, k 14 61 rfl, k 15 62 rfl, k 16 63 rfl, k 17 64 rfl, k 18 65 rfl, k 19 11 rfl, k 20 12 rfl, k 21 71 rfl, k 22 72 rfl, k 23 23 rfl, k 24 75 rfl, k 25 42 rfl, k 26 97 rfl, k 27 43 rfl, k 28 98 rfl, k 29 49 rfl, k 30 67 rfl, k 31 19 rfl, k 32 104 rfl]
  exact ⟨h6, h7, h8, h9, h10, h11, h12, h13, h14, h15⟩
theorem Inv.zero {LR : tLR} {G : pG} {n : Nat} {K : Int → Nat × Nat} {F E : Int → Int → Int} (h : Inv LR G n K F E) : Inv LR G n K (pUp F 66 0 0) E := h.ext (FI.refl.up (by decide +kernel) (by decide +kernel) (by decide)) EI.refl
/-- the parts of what holds, by name -/
theorem Inv.KS {LR : tLR} {G : pG} {n : Nat} {K : Int → Nat × Nat} {F E : Int → Int → Int} (h : Inv LR G n K F E) : KS K := h.1.1
theorem Inv.FS {LR : tLR} {G : pG} {n : Nat} {K : Int → Nat × Nat} {F E : Int → Int → Int} (h : Inv LR G n K F E) : FS F := h.1.2.1
