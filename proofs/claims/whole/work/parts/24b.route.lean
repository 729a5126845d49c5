/-! THE WAY OF ONE TUPLE in the class: what it looks at -/
/-- the words that a law sees, but for the operator's own -/
def wC (B : Int → Int) (o z t d : Int) : Int → Int := fun k => if k = 0 then t else if k = 1 then o else if k = 5 then z else if k = 6 then d else B k
noncomputable def csS (L : Option tLaw) (B : Int → Int) : Int → Int → Int → Int → Int := fun o z t d => max 0 (min 99 (costS L (wC B o z t d) z))
theorem csS_rng {L : Option tLaw} {B : Int → Int} {o z t d : Int} : 0 ≤ csS L B o z t d ∧ csS L B o z t d ≤ 99 := by unfold csS; omega
theorem csS_eq {L : Option tLaw} {B : Int → Int} {o z t d : Int} (h0 : 0 ≤ z) (h1 : z ≤ 99) : csS L B o z t d = costS L (wC B o z t d) z := by
  have := costS_rng (L := L) (W := wC B o z t d) h0 h1
  unfold csS
  omega
def BOk (B : Int → Int) : Prop := ∀ k, 0 ≤ k → k < 9 → -1999999999 ≤ B k ∧ B k ≤ 1999999999
theorem wC_ok {B : Int → Int} {o z t d : Int} (h : BOk B) (h1 : -1000 ≤ o ∧ o ≤ 1000) (h2 : -1000 ≤ z ∧ z ≤ 1000) (h3 : -1000000000 ≤ t ∧ t ≤ 1000000000) (h4 : -1000 ≤ d ∧ d ≤ 1000) : WOk (wC B o z t d) 9 := by
  intro k k0 k1
  have := h k k0 k1
  unfold wC
  split
  · omega
  · split
    · omega
    · split
      · omega
      · split <;> omega
/-- where the orders of operators come from -/
def OgOk (c og : Int → Int) (fx : Bool) : Prop := (∀ i, 0 ≤ i → i < c 0 → 0 ≤ og i ∧ og i < c 0) ∧ (fx = false → ∀ i, og i = i)
def CtxC (K : Int → Nat × Nat) (F E : Int → Int → Int) (x y : Int) (c : Int → Int) (L : Option tLaw) (bud : Int) (og : Int → Int) (fx : Bool) (B : Int → Int) : Prop :=
  (KS K ∧ FS F) ∧ (F 30 2 = x ∧ (K x).1 = 0 ∧ F x 0 = y ∧ K y = (20, 117) ∧ x ≠ 30 ∧ (y = 3 ∨ y = 17 ∨ y = 19)) ∧ (cz (E y) = c ∧ CInv c) ∧ (((L = none ∧ F 30 3 = -1) ∨ ∃ L', L = some L' ∧ LawC K F E (F 30 3) L') ∧ LwOk L) ∧ F 30 5 = bud ∧
  (OgOk c og fx ∧ ((fx = false ∧ F 30 4 = -1) ∨ (fx = true ∧ F 30 4 = 51 ∧ ∀ i, 0 ≤ i → i < c 0 → E 51 i = og i))) ∧ (BOk B ∧ E 33 2 = B 2 ∧ E 33 3 = B 3 ∧ E 33 4 = B 4 ∧ E 33 7 = B 7 ∧ E 33 8 = B 8)
/-- what a way changes of the class's memory -/
def FrC (F E F' E' : Int → Int → Int) : Prop := (∀ r, r ≠ 32 → r ≠ 33 → r ≠ 36 → r ≠ 37 → r ≠ 38 → r ≠ 39 → r ≠ 40 → E' r = E r) ∧ (E' 33 2 = E 33 2 ∧ E' 33 3 = E 33 3 ∧ E' 33 4 = E 33 4 ∧ E' 33 7 = E 33 7 ∧ E' 33 8 = E 33 8) ∧ FS F' ∧ ∀ a k, ¬ (a = 30 ∧ (k = 6 ∨ k = 12 ∨ k = 13 ∨ k = 14 ∨ k = 15 ∨ k = 16)) → F' a k = F a k
theorem FrC.refl {F E : Int → Int → Int} (h : FS F) : FrC F E F E := ⟨fun _ _ _ _ _ _ _ _ => rfl, ⟨rfl, rfl, rfl, rfl, rfl⟩, h, fun _ _ _ => rfl⟩
theorem FrC.trans {F E F' E' F'' E'' : Int → Int → Int} (h : FrC F E F' E') (h' : FrC F' E' F'' E'') : FrC F E F'' E'' := by
  obtain ⟨a1, a2, a3, a4⟩ := h
  obtain ⟨b1, b2, b3, b4⟩ := h'
  exact ⟨fun r h1 h2 h3 h4 h5 h6 h7 => (b1 r h1 h2 h3 h4 h5 h6 h7).trans (a1 r h1 h2 h3 h4 h5 h6 h7), ⟨b2.1.trans a2.1, b2.2.1.trans a2.2.1, b2.2.2.1.trans a2.2.2.1, b2.2.2.2.1.trans a2.2.2.2.1, b2.2.2.2.2.trans a2.2.2.2.2⟩, b3, fun a k q => (b4 a k q).trans (a4 a k q)⟩
theorem FrC.up {F E F' E' : Int → Int → Int} {k v : Int} (h : FrC F E F' E') (hk : k = 6 ∨ k = 12 ∨ k = 13 ∨ k = 14 ∨ k = 15 ∨ k = 16) : FrC F E (pUp F' 30 k v) E' := by
  obtain ⟨a1, a2, a3, a4⟩ := h
  refine ⟨a1, a2, ?_, fun a j q => ?_⟩
  · rcases hk with e | e | e | e | e | e <;> subst e <;> exact a3.up (by decide +kernel)
  · unfold pUp
    rw [if_neg (fun z => q ⟨z.1, by rw [z.2]; exact hk⟩)]
    exact a4 a j q
theorem FrC.row {F E F' E' : Int → Int → Int} {a : Int} {g : Int → Int} (h : FrC F E F' E') (ha : a = 32 ∨ a = 36 ∨ a = 37 ∨ a = 38 ∨ a = 39 ∨ a = 40) : FrC F E F' (pRow E' a g) := by
  obtain ⟨a1, a2, a3, a4⟩ := h
  refine ⟨fun r h1 h2 h3 h4 h5 h6 h7 => (pRow_ne (by omega)).trans (a1 r h1 h2 h3 h4 h5 h6 h7), ?_, a3, a4⟩
  rw [pRow_ne (by omega)]
  exact a2
theorem FrC.upE {F E F' E' : Int → Int → Int} {a k v : Int} (h : FrC F E F' E') (ha : a = 32 ∨ a = 36 ∨ a = 37 ∨ a = 38 ∨ a = 39 ∨ a = 40) : FrC F E F' (pUp E' a k v) := by rw [pUp_row]; exact h.row ha
theorem CtxC.keep {K : Int → Nat × Nat} {F E F' E' : Int → Int → Int} {x y : Int} {c : Int → Int} {L : Option tLaw} {bud : Int} {og : Int → Int} {fx : Bool} {B : Int → Int} (h : CtxC K F E x y c L bud og fx B) (f : FrC F E F' E') : CtxC K F' E' x y c L bud og fx B := by
  obtain ⟨⟨h1, h2⟩, ⟨h3, h4, h5, h6, h7, h8⟩, h9, ⟨h10, h11⟩, h12, ⟨h13, h14⟩, h15⟩ := h
  obtain ⟨a1, a2, a3, a4⟩ := f
  have eF : ∀ a, 105 ≤ a → F' a = F a := fun a ha => funext fun k => a4 a k (by omega)
  have eE : ∀ a, 105 ≤ a → E' a = E a := fun a ha => a1 a (by omega) (by omega) (by omega) (by omega) (by omega) (by omega) (by omega)
  have ey : E' y = E y := a1 y (by omega) (by omega) (by omega) (by omega) (by omega) (by omega) (by omega)
  refine ⟨⟨h1, a3⟩, ⟨(a4 30 2 (by omega)).trans h3, h4, (a4 x 0 (by omega)).trans h5, h6, h7, h8⟩, ?_, ⟨?_, h11⟩, (a4 30 5 (by omega)).trans h12, ⟨h13, ?_⟩, ?_⟩
  · rw [ey]; exact h9
  · rw [a4 30 3 (by omega)]
    exact h10.imp id (fun ⟨L', e, q⟩ => ⟨L', e, q.keep eF eE⟩)
  · rw [a4 30 4 (by omega), a1 51 (by decide) (by decide) (by decide) (by decide) (by decide) (by decide) (by decide)]
    exact h14
  · rw [a2.1, a2.2.1, a2.2.2.1, a2.2.2.2.1, a2.2.2.2.2]
    exact h15
theorem CtxC.rd {K : Int → Nat × Nat} {F E : Int → Int → Int} {x y : Int} {c : Int → Int} {L : Option tLaw} {bud : Int} {og : Int → Int} {fx : Bool} {B : Int → Int} (h : CtxC K F E x y c L bud og fx B) {k : Int} (k0 : 0 ≤ k) (k1 : k < 117) : E y k = c k := by
  rw [← h.2.2.1.1, cz_in k0 k1]
/-- an operator's parts, by CInv -/
theorem op_rng {c : Int → Int} {o : Int} (h : CInv c) (o0 : 0 ≤ o) (o1 : o < c 0) : o < 4 ∧ (0 ≤ c (12 + o * 6 + 1) ∧ c (12 + o * 6 + 1) < 3) ∧ (0 ≤ c (12 + o * 6 + 2) ∧ c (12 + o * 6 + 2) < 2) ∧ (0 ≤ c (12 + o * 6 + 3) ∧ c (12 + o * 6 + 3) < 3) ∧ ((c (12 + o * 6 + 0) = 0 ∧ c (12 + o * 6 + 3) ≠ c (12 + o * 6 + 1) ∧ 0 ≤ c (12 + o * 6 + 4) ∧ c (12 + o * 6 + 4) < 2) ∨ (c (12 + o * 6 + 0) = 1 ∧ 0 ≤ c (12 + o * 6 + 4) ∧ c (12 + o * 6 + 4) < 10)) := by
  have b := h.1
  have q := h.2.2.2.2.1 o o0 o1
  rw [show 13 + 6 * o = 12 + o * 6 + 1 by omega, show 14 + 6 * o = 12 + o * 6 + 2 by omega, show 15 + 6 * o = 12 + o * 6 + 3 by omega, show 16 + 6 * o = 12 + o * 6 + 4 by omega, show 17 + 6 * o = 12 + o * 6 + 5 by omega, show 12 + 6 * o = 12 + o * 6 + 0 by omega] at q
  omega
section C
variable {l : Launch} {G : pG} {bg : Nat × Nat} {n : Nat} {K : Int → Nat × Nat} {F E : Int → Int → Int} {Q : Option pV → pM → Prop} {x y : Int} {c : Int → Int} {L : Option tLaw} {bud : Int} {og : Int → Int} {fx : Bool} {B : Int → Int} {st fd tk : Int → Int}
theorem c_isOpen {o m : Int} (h : CtxC K F E x y c L bud og fx B) (o0 : 0 ≤ o) (o1 : o < c 0) (hs : ∀ r, 0 ≤ r → r < 3 → E 36 r = st r) (hQ : ∀ v, (opnP c st m o ∧ v = 1) ∨ (¬ opnP c st m o ∧ v = 0) → Q (some (0, v)) (n, K, F, E)) : PC l G 1 mX6_isOpen bg [(2, 30), (0, o), (0, m)] (n, K, F, E) Q := by
  have rd := fun k k0 k1 => h.rd (k := k) k0 k1
  obtain ⟨⟨hK, hF⟩, ⟨h3, h4, h5, h6, h7, h8⟩, ⟨_, hC⟩, _⟩ := h
  obtain ⟨q1, q2, q3, q4, q5⟩ := op_rng hC o0 o1
  have r0 := rd (12 + o * 6 + 0) (by omega) (by omega)
  have r1 := rd (12 + o * 6 + 1) (by omega) (by omega)
  have r3 := rd (12 + o * 6 + 3) (by omega) (by omega)
  have s1 := hs _ q2.1 q2.2
  have s3 := hs _ q4.1 q4.2
  refine vX6_isOpen_0 30 o m ?_
  simp only [h3, h5, h6, h4, r0, r1, r3, s1, s3, hF.f30_7, hK.k30, hK.k36]
  refine ⟨fun z => ⟨trivial, trivial, by omega, by omega, by omega, trivial, by omega, trivial, by omega, fun a1 e1 => ⟨fun w => ⟨by omega, by omega, fun u => hQ 0 (Or.inr ⟨?_, rfl⟩), fun u => ⟨by omega, by omega, by omega, fun a2 e2 => ⟨fun t => hQ 0 (Or.inr ⟨?_, rfl⟩), fun t => hQ 1 (Or.inl ⟨⟨z, Or.inr ⟨u, by omega⟩⟩, rfl⟩)⟩⟩⟩, fun w => hQ 1 (Or.inl ⟨⟨z, Or.inl (by omega)⟩, rfl⟩)⟩⟩, fun z => hQ 0 (Or.inr ⟨fun w => w.1 z, rfl⟩)⟩
  · rintro ⟨_, w1 | w1⟩
    · omega
    · exact u w1.1
  · rintro ⟨_, w1 | w1⟩
    · omega
    · omega
theorem chS_fix {m : Int} (k : Nat) : ∀ i b, b ≠ -1 → chS c st tk og m true k i b = b := by
  induction k with
  | zero => intro i b _; rfl
  | succ k ih =>
    intro i b hb
    unfold chS
    rw [if_neg (fun q => q.2.elim hb (fun z => by cases z.1))]
    exact ih _ _ hb
theorem chS_open {m : Int} {N : Int} (hog : ∀ i, 0 ≤ i → i < N → 0 ≤ og i ∧ og i < N) (k : Nat) : ∀ i b, 0 ≤ i → i + k = N → (b = -1 ∨ (opnP c st m b ∧ 0 ≤ b ∧ b < N)) → (chS c st tk og m fx k i b = -1 ∨ (opnP c st m (chS c st tk og m fx k i b) ∧ 0 ≤ chS c st tk og m fx k i b ∧ chS c st tk og m fx k i b < N)) := by
  induction k with
  | zero => intro i b _ _ hb; exact hb
  | succ k ih =>
    intro i b i0 e hb
    unfold chS
    refine ih _ _ (by omega) (by omega) ?_
    split
    · rename_i q
      exact Or.inr ⟨q.1, hog i i0 (by omega)⟩
    · exact hb
theorem c_chosen_4 {m : Int} (h : CtxC K F E x y c L bud og fx B) (hs : ∀ r, 0 ≤ r → r < 3 → E 36 r = st r) (ht : ∀ o, 0 ≤ o → o < c 0 → E 38 o = tk o) (k : Nat) : ∀ i b, 0 ≤ i → i + k = c 0 → (b = -1 ∨ (0 ≤ b ∧ b < c 0)) → (fx = true → b = -1) → Q (some (0, chS c st tk og m fx k i b)) (n, K, F, E) → PW l G 2 mX6_chosen bg 4 [(0, (2, 30)), (1, (0, m)), (2, (0, b)), (3, (0, i))] [] (n, K, F, E) Q := by
  have h' := h
  have rd := fun k k0 k1 => h.rd (k := k) k0 k1
  obtain ⟨⟨hK, hF⟩, ⟨h3, h4, h5, h6, h7, h8⟩, ⟨_, hC⟩, _, _, ⟨hog, hox⟩, _⟩ := h'
  have c0 := rd 0 (by decide) (by decide)
  have b0 := hC.1
  induction k with
  | zero =>
    intro i b i0 e hb hf q
    refine vX6_chosen_4 30 m b i ?_
    simp only [h3, h5, h6, h4, c0, hK.k30]
    exact ⟨trivial, trivial, trivial, by decide, fun _ => q, fun z => absurd (by omega) z⟩
  | succ k ih =>
    intro i b i0 e hb hf q
    unfold chS at q
    have oi := hog.1 i i0 (by omega)
    have behind : ∀ s0, (opnP c st m (og i) ∧ s0 = 1) ∨ (¬ opnP c st m (og i) ∧ s0 = 0) → PW l G 2 mX6_chosen bg 41 [(0, (2, 30)), (1, (0, m)), (2, (0, b)), (3, (0, i)), (4, (0, og i))] [(0, s0)] (n, K, F, E) Q := by
      intro s0 hs0
      refine vX6_chosen_41 30 m b i (og i) s0 ?_
      simp only [hF.f30_9, hK.k30, hK.k38]
      rcases hs0 with ⟨ho, e0⟩ | ⟨ho, e0⟩
      · refine ⟨fun _ => ⟨trivial, fun z => ?_, fun z => ?_⟩, fun z => absurd z (by omega)⟩
        · have f : fx = false := by
            rcases hox with ⟨f, _⟩ | ⟨_, f, _⟩
            · exact f
            · omega
          refine ⟨fun w => ⟨by omega, ih (i + 1) (og i) (by omega) (by omega) (Or.inr oi) (fun t => by rw [f] at t; cases t) ?_⟩, fun w => ⟨trivial, by omega, by omega, ?_⟩⟩
          · rw [if_pos ⟨ho, Or.inl w⟩] at q; exact q
          · rw [ht _ oi.1 oi.2, ht b (by omega) (by omega)]
            refine ⟨fun u => ⟨by omega, ih (i + 1) b (by omega) (by omega) hb hf ?_⟩, fun u => ⟨by omega, ih (i + 1) (og i) (by omega) (by omega) (Or.inr oi) (fun t => by rw [f] at t; cases t) ?_⟩⟩
            · rw [if_neg (fun t => t.2.elim w (fun s => by omega))] at q; exact q
            · rw [if_pos ⟨ho, Or.inr ⟨f, by omega⟩⟩] at q; exact q
        · have f : fx = true := by
            rcases hox with ⟨_, f⟩ | ⟨f, _⟩
            · omega
            · exact f
          rw [if_pos ⟨ho, Or.inl (hf f)⟩, f, chS_fix k _ _ (by omega)] at q
          exact q
      · refine ⟨fun z => absurd e0 z, fun _ => ⟨by omega, ih (i + 1) b (by omega) (by omega) hb hf ?_⟩⟩
        rw [if_neg (fun t => ho t.1)] at q; exact q
    refine vX6_chosen_4 30 m b i ?_
    simp only [h3, h5, h6, h4, c0, hK.k30]
    refine ⟨trivial, trivial, trivial, by decide, fun z => absurd z (by omega), fun _ => ⟨fun z => ?_, fun z => ?_⟩⟩
    · rcases hox with ⟨_, f⟩ | ⟨f, e4, e51⟩
      · exact absurd f z
      · rw [e4, e51 i i0 (by omega), hK.k51]
        exact ⟨rfl, ⟨i0, show i < 10 by omega⟩, c_isOpen h oi.1 oi.2 hs fun v hv => behind v hv⟩
    · have f : fx = false := by
        rcases hox with ⟨f, _⟩ | ⟨_, f, _⟩
        · exact f
        · omega
      have eo := hog.2 f i
      rw [eo] at oi behind
      exact c_isOpen h oi.1 oi.2 hs fun v hv => behind v (by rw [← eo] at hv; rw [eo] at hv; exact hv)
theorem c_chosen {m : Int} (h : CtxC K F E x y c L bud og fx B) (hs : ∀ r, 0 ≤ r → r < 3 → E 36 r = st r) (ht : ∀ o, 0 ≤ o → o < c 0 → E 38 o = tk o) (hQ : Q (some (0, chS c st tk og m fx (c 0).toNat 0 (-1))) (n, K, F, E)) : PC l G 2 mX6_chosen bg [(2, 30), (0, m)] (n, K, F, E) Q := by
  have b0 := h.2.2.1.2.1
  exact vX6_chosen_0 30 m (c_chosen_4 h hs ht (c 0).toNat 0 (-1) (by decide) (by omega) (Or.inl rfl) (fun _ => rfl) hQ)
theorem c_toOpen {o : Int} (h : CtxC K F E x y c L bud og fx B) (o0 : 0 ≤ o) (o1 : o < c 0) (hs : ∀ r, 0 ≤ r → r < 3 → E 36 r = st r) (hQ : Q (some (0, toOp c st o)) (n, K, F, E)) : PC l G 1 mX6_relationToOpen bg [(2, 30), (0, o)] (n, K, F, E) Q := by
  have rd := fun k k0 k1 => h.rd (k := k) k0 k1
  obtain ⟨⟨hK, hF⟩, ⟨h3, h4, h5, h6, h7, h8⟩, ⟨_, hC⟩, _⟩ := h
  obtain ⟨q1, q2, q3, q4, q5⟩ := op_rng hC o0 o1
  have r0 := rd (12 + o * 6 + 0) (by omega) (by omega)
  have r1 := rd (12 + o * 6 + 1) (by omega) (by omega)
  have r3 := rd (12 + o * 6 + 3) (by omega) (by omega)
  have s1 := hs _ q2.1 q2.2
  have s3 := hs _ q4.1 q4.2
  unfold toOp at hQ
  refine vX6_relationToOpen_0 30 o ?_
  simp only [h3, h5, h6, h4, r0, r1, r3, s1, s3, hF.f30_7, hK.k30, hK.k36]
  refine ⟨trivial, trivial, by omega, by omega, by omega, trivial, by omega, fun z => ⟨by omega, by omega, by omega, by omega, trivial, by omega, fun a1 e1 => ⟨fun w => ⟨by omega, fun a2 e2 => ⟨fun u => ?_, fun u => ?_⟩⟩, fun w => ?_⟩⟩, fun z => ?_⟩
  · rw [if_neg z, if_neg (by omega), if_neg (by omega)] at hQ; exact hQ
  · rw [if_neg z, if_neg (by omega), if_pos (by omega)] at hQ; exact hQ
  · rw [if_neg z, if_pos (by omega)] at hQ; exact hQ
  · rw [if_pos z] at hQ; exact hQ
theorem c_fieldIn {o r : Int} (h : CtxC K F E x y c L bud og fx B) (o0 : 0 ≤ o) (o1 : o < c 0) (hQ : Q (some (0, fIn c o r)) (n, K, F, E)) : PC l G 1 mX6_fieldIn bg [(2, 30), (0, o), (0, r)] (n, K, F, E) Q := by
  have rd := fun k k0 k1 => h.rd (k := k) k0 k1
  obtain ⟨⟨hK, hF⟩, ⟨h3, h4, h5, h6, h7, h8⟩, ⟨_, hC⟩, _⟩ := h
  obtain ⟨q1, q2, q3, q4, q5⟩ := op_rng hC o0 o1
  have r1 := rd (12 + o * 6 + 1) (by omega) (by omega)
  have r2 := rd (12 + o * 6 + 2) (by omega) (by omega)
  have r4 := rd (12 + o * 6 + 4) (by omega) (by omega)
  unfold fIn at hQ
  refine vX6_fieldIn_0 30 o r ?_
  simp only [h3, h5, h6, h4, r1, r2, r4, hK.k30]
  refine ⟨trivial, trivial, by omega, by omega, by omega, trivial, by omega, fun z => ⟨by omega, by omega, ?_⟩, fun z => ⟨by omega, by omega, ?_⟩⟩
  · rw [if_neg z] at hQ; exact hQ
  · rw [if_pos z] at hQ; exact hQ
/-- what the partial has there: the relation that isn't opened has its tuple -/
theorem c_valueThere {o r : Int} (h : CtxC K F E x y c L bud og fx B) (o0 : 0 ≤ o) (o1 : o < c 0) (j : c (12 + o * 6 + 0) = 0) (hf : ∀ k, k = (if c (12 + o * 6 + 1) = r then c (12 + o * 6 + 3) else c (12 + o * 6 + 1)) → ∀ f, 0 ≤ f → f < 2 → E 37 (k * 2 + f) = fd (k * 2 + f)) (hQ : Q (some (0, vTh c fd o r)) (n, K, F, E)) : PC l G 1 mX6_valueThere bg [(2, 30), (0, o), (0, r)] (n, K, F, E) Q := by
  have rd := fun k k0 k1 => h.rd (k := k) k0 k1
  obtain ⟨⟨hK, hF⟩, ⟨h3, h4, h5, h6, h7, h8⟩, ⟨_, hC⟩, _⟩ := h
  obtain ⟨q1, q2, q3, q4, q5⟩ := op_rng hC o0 o1
  have r1 := rd (12 + o * 6 + 1) (by omega) (by omega)
  have r2 := rd (12 + o * 6 + 2) (by omega) (by omega)
  have r3 := rd (12 + o * 6 + 3) (by omega) (by omega)
  have r4 := rd (12 + o * 6 + 4) (by omega) (by omega)
  unfold vTh at hQ
  refine vX6_valueThere_0 30 o r ?_
  simp only [h3, h5, h6, h4, r1, r2, r3, r4, hF.f30_8, hK.k30, hK.k37]
  refine ⟨trivial, trivial, by omega, by omega, by omega, trivial, by omega, fun z => ⟨by omega, by omega, by omega, fun a1 e1 => ⟨by omega, fun a2 e2 => ⟨trivial, by omega, ?_⟩⟩⟩, fun z => ⟨by omega, by omega, by omega, by omega, by omega, fun a3 e3 => ⟨by omega, fun a4 e4 => ⟨trivial, by omega, ?_⟩⟩⟩⟩
  · rw [if_neg z] at hQ
    rw [e2, e1, hf _ (by rw [if_neg z]) _ (by omega) (by omega)]
    exact hQ
  · rw [if_pos z] at hQ
    rw [e4, e3, hf _ (by rw [if_pos z]) _ (by omega) (by omega)]
    exact hQ
theorem fd_rng {v : Int} (v0 : 0 ≤ v) (v1 : v < 10) : 0 ≤ v * v ∧ v * v ≤ 81 := by
  have h1 : v * v ≤ 9 * v := Int.mul_le_mul_of_nonneg_right (by omega) v0
  have h2 : 0 ≤ v * v := Int.mul_nonneg v0 v0
  omega
theorem c_looksAt_45 {r f b : Int} (h : CtxC K F E x y c L bud og fx B) (r0 : 0 ≤ r) (r1 : r < 3) (f0 : 0 ≤ f) (f1 : f < 2) (k : Nat) : ∀ i z, 0 ≤ i → i + k = c (9 + r) → 0 ≤ z → z ≤ i → Q (some (0, lkC c r f b k i z)) (n, K, F, E) → PW l G 2 mX6_looksAt bg 45 [(0, (2, 30)), (2, (0, r)), (3, (0, f)), (4, (0, b)), (5, (0, z)), (6, (0, i))] [] (n, K, F, E) Q := by
  have rd := fun k k0 k1 => h.rd (k := k) k0 k1
  obtain ⟨⟨hK, hF⟩, ⟨h3, h4, h5, h6, h7, h8⟩, ⟨_, hC⟩, _⟩ := h
  have b9 := hC.2.2.2.1 r r0 r1
  have q9 := rd (9 + r) (by omega) (by omega)
  induction k with
  | zero =>
    intro i z i0 e z0 z1 q
    refine vX6_looksAt_45 30 r f b z i ?_
    simp only [h3, h5, h6, h4, q9, hK.k30]
    exact ⟨trivial, trivial, by omega, trivial, by omega, fun _ => q, fun w => absurd (by omega) w⟩
  | succ k ih =>
    intro i z i0 e z0 z1 q
    unfold lkC at q
    have qc := rd (36 + (r * 9 + i) * 3 + f) (by omega) (by omega)
    have cr : 0 ≤ c (36 + (r * 9 + i) * 3 + f) ∧ c (36 + (r * 9 + i) * 3 + f) < 10 := by
      have := hC.2.2.2.2.2 r i r0 r1 i0 (by omega)
      rcases (show f = 0 ∨ f = 1 by omega) with e | e <;> subst e
      · rw [show 36 + (r * 9 + i) * 3 + 0 = 36 + 27 * r + 3 * i by omega]; exact this.1
      · rw [show 36 + (r * 9 + i) * 3 + 1 = 37 + 27 * r + 3 * i by omega]; exact this.2.1
    have sq := fd_rng cr.1 cr.2
    refine vX6_looksAt_45 30 r f b z i ?_
    simp only [h3, h5, h6, h4, q9, qc, hK.k30]
    refine ⟨trivial, trivial, by omega, trivial, by omega, fun w => absurd w (by omega), fun _ => ⟨by omega, by omega, by omega, by omega, by omega, by omega, fun a1 e1 => ?_⟩⟩
    rw [e1]
    refine ⟨by omega, by omega, by omega, fun w => ⟨by omega, ih (i + 1) z (by omega) (by omega) z0 (by omega) ?_⟩, fun w => ⟨by omega, by omega, ih (i + 1) (z + 1) (by omega) (by omega) (by omega) (by omega) ?_⟩⟩
    · rw [if_neg (show ¬ bkt _ = b from w)] at q; exact q
    · rw [if_pos (show bkt _ = b from w)] at q; exact q
theorem lk_rng {r f b : Int} (k : Nat) : ∀ i z, 0 ≤ z → 0 ≤ lkC c r f b k i z ∧ lkC c r f b k i z ≤ z + k := by
  induction k with
  | zero => intro i z z0; unfold lkC; omega
  | succ k ih =>
    intro i z z0
    unfold lkC
    split
    · have := ih (i + 1) (z + 1) (by omega); omega
    · have := ih (i + 1) z z0; omega
theorem c_looksAt {o r : Int} (h : CtxC K F E x y c L bud og fx B) (o0 : 0 ≤ o) (o1 : o < c 0) (j : c (12 + o * 6 + 0) = 0) (r0 : 0 ≤ r) (r1 : r < 3) (hf : ∀ k, k = (if c (12 + o * 6 + 1) = r then c (12 + o * 6 + 3) else c (12 + o * 6 + 1)) → ∀ f, 0 ≤ f → f < 2 → E 37 (k * 2 + f) = fd (k * 2 + f) ∧ 0 ≤ fd (k * 2 + f) ∧ fd (k * 2 + f) < 10) (hQ : Q (some (0, lkS c fd o r)) (n, K, F, E)) : PC l G 2 mX6_looksAt bg [(2, 30), (0, o), (0, r)] (n, K, F, E) Q := by
  have h' := h
  have rd := fun k k0 k1 => h.rd (k := k) k0 k1
  obtain ⟨⟨hK, hF⟩, ⟨h3, h4, h5, h6, h7, h8⟩, ⟨_, hC⟩, _⟩ := h'
  have q6 := rd (6 + r) (by omega) (by omega)
  have q9 := rd (9 + r) (by omega) (by omega)
  obtain ⟨p1, p2, p3, p4, p5⟩ := op_rng hC o0 o1
  have b9 := hC.2.2.2.1 r r0 r1
  have fr : 0 ≤ fIn c o r ∧ fIn c o r < 2 := by unfold fIn; split <;> omega
  have vr : 0 ≤ vTh c fd o r ∧ vTh c fd o r < 10 := by
    unfold vTh
    split
    · rename_i z
      exact (hf _ (by rw [if_pos z]) _ (by omega) (by omega)).2
    · rename_i z
      exact (hf _ (by rw [if_neg z]) _ (by omega) (by omega)).2
  have sq := fd_rng vr.1 vr.2
  unfold lkS at hQ
  refine vX6_looksAt_0 30 o r ⟨by rw [hK.k30], c_fieldIn h o0 o1 (vX6_looksAt_6 30 o r _ ?_)⟩
  simp only [h3, h5, h6, h4, q6, q9, hK.k30]
  refine ⟨trivial, trivial, by omega, trivial, by omega, fun z => c_valueThere h o0 o1 j (fun k ek f a b => (hf k ek f a b).1) (vX6_looksAt_34 30 r _ _ ⟨by omega, by omega, by omega, ?_⟩), fun z => ⟨by omega, by omega, ?_⟩⟩
  · rw [if_pos z] at hQ
    exact c_looksAt_45 h r0 r1 fr.1 fr.2 (c (9 + r)).toNat 0 0 (by decide) (by omega) (by decide) (by decide) hQ
  · rw [if_neg z] at hQ; exact hQ
theorem c_isSo {o : Int} (h : CtxC K F E x y c L bud og fx B) (o0 : 0 ≤ o) (o1 : o < c 0) (hf : ∀ k, (k = c (12 + o * 6 + 1) ∨ (c (12 + o * 6 + 0) = 0 ∧ k = c (12 + o * 6 + 3))) → ∀ f, 0 ≤ f → f < 2 → E 37 (k * 2 + f) = fd (k * 2 + f)) (hQ : ∀ v, (soS c fd o ∧ v = 1) ∨ (¬ soS c fd o ∧ v = 0) → Q (some (0, v)) (n, K, F, E)) : PC l G 1 mX6_isSo bg [(2, 30), (0, o)] (n, K, F, E) Q := by
  have rd := fun k k0 k1 => h.rd (k := k) k0 k1
  obtain ⟨⟨hK, hF⟩, ⟨h3, h4, h5, h6, h7, h8⟩, ⟨_, hC⟩, _⟩ := h
  obtain ⟨q1, q2, q3, q4, q5⟩ := op_rng hC o0 o1
  have r0 := rd (12 + o * 6 + 0) (by omega) (by omega)
  have r1 := rd (12 + o * 6 + 1) (by omega) (by omega)
  have r2 := rd (12 + o * 6 + 2) (by omega) (by omega)
  have r3 := rd (12 + o * 6 + 3) (by omega) (by omega)
  have r4 := rd (12 + o * 6 + 4) (by omega) (by omega)
  have f1 := hf (c (12 + o * 6 + 1)) (Or.inl rfl) _ q3.1 q3.2
  unfold soS at hQ
  refine vX6_isSo_0 30 o ?_
  simp only [h3, h5, h6, h4, r0, r1, r2, r3, r4, hF.f30_8, hK.k30, hK.k37]
  refine ⟨trivial, trivial, by omega, by omega, by omega, trivial, by omega, by omega, fun a1 e1 => ⟨by omega, by omega, by omega, fun a2 e2 => ⟨trivial, by omega, by omega, by omega, by omega, by omega, by omega, by omega, ?_⟩⟩⟩
  have ea : E 37 a2 = fd (c (12 + o * 6 + 1) * 2 + c (12 + o * 6 + 2)) := by rw [e2, e1]; exact f1
  rw [ea]
  refine ⟨fun z => ⟨fun w => ⟨fun u => ⟨fun t => hQ 0 (Or.inr ⟨?_, rfl⟩), fun t => hQ 1 (Or.inl ⟨?_, rfl⟩)⟩, fun u => ⟨fun t => hQ 0 (Or.inr ⟨?_, rfl⟩), fun t => hQ 1 (Or.inl ⟨?_, rfl⟩)⟩⟩, fun w => ⟨fun t => hQ 0 (Or.inr ⟨?_, rfl⟩), fun t => hQ 1 (Or.inl ⟨?_, rfl⟩)⟩⟩, fun z => ⟨by omega, fun a3 e3 => ⟨by omega, fun a4 e4 => ⟨by omega, ?_⟩⟩⟩⟩
  · rw [if_neg z, if_neg w, if_neg u]; omega
  · rw [if_neg z, if_neg w, if_neg u]; omega
  · rw [if_neg z, if_neg w, if_pos u]; exact t
  · rw [if_neg z, if_neg w, if_pos u]; exact t
  · rw [if_neg z, if_pos w]; omega
  · rw [if_neg z, if_pos w]; omega
  · have f3 := hf (c (12 + o * 6 + 3)) (Or.inr ⟨z, rfl⟩) (c (12 + o * 6 + 4)) (by omega) (by omega)
    rw [e4, e3, f3]
    refine ⟨fun t => hQ 0 (Or.inr ⟨?_, rfl⟩), fun t => hQ 1 (Or.inl ⟨?_, rfl⟩)⟩
    · rw [if_pos z]; exact t
    · rw [if_pos z]; exact t
end C
