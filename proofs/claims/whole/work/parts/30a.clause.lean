/-! CLAUSES: their grammar, and a whole sum in the class -/
/-- kind, how often, test, sums -/
abbrev tKl : Type := Int × Int × Option tPhi × (Int → tPhi)
def hdL (lw : Bool) : Int := if lw = true then 273 else 275
def laL (lw : Bool) : Int := if lw = true then 1 else 3
def nSm (lw : Bool) (k : Int) : Int := if lw = true then (if k = 0 then 1 else 0) else if k = 0 then 3 else if k = 1 then 1 else 2
/-- what stands behind a clause's head: (0, i): the i-th sum, (1, w): the word w -/
def mvL (lw : Bool) (k : Int) : List (Int × Int) := if lw = true then (if k = 0 then [(0, 0)] else []) else if k = 0 then [(0, 0), (1, 279), (0, 1), (1, 284), (0, 2)] else if k = 1 then [(0, 0)] else [(0, 0), (1, 280), (0, 1)]
def MG (lw : Bool) (kd nm : Int → Int) : List (Int × Int) → Int → Int → Bool → Int → Int → (Int → tPhi) → Prop
  | [], t, p, ok, t', p', _ => ok = true ∧ t' = t ∧ p' = p
  | x :: L, t, p, ok, t', p', fs =>
    (x.1 = 0 ∧ ((ok = false ∧ ∃ p1 f, Gr lw kd nm 3 0 t p pZ false t' p1 f) ∨ ∃ t1 p1, Gr lw kd nm 3 0 t p pZ true t1 p1 (fs x.2) ∧ MG lw kd nm L t1 p1 ok t' p' fs)) ∨
    (x.1 = 1 ∧ ((kd t ≠ x.2 ∧ ok = false ∧ t' = t) ∨ (kd t = x.2 ∧ MG lw kd nm L (t + 1) p ok t' p' fs)))
def TmG (lw : Bool) (kd nm : Int → Int) (t : Int) (ok : Bool) (t' n : Int) : Prop :=
  ((lw = true ∨ kd t ≠ 281) ∧ ok = true ∧ t' = t ∧ n = 1) ∨
  (lw = false ∧ kd t = 281 ∧ ((ok = true ∧ t' = t + 2 ∧ n = nm (t + 1) ∧ kd (t + 1) = 257 ∧ 1 ≤ n ∧ n ≤ 20) ∨ (ok = false ∧ t' = t + 1 ∧ ¬ (kd (t + 1) = 257 ∧ 1 ≤ nm (t + 1) ∧ nm (t + 1) ≤ 20))))
def IfG (lw : Bool) (kd nm : Int → Int) (t p : Int) (ok : Bool) (t' p' : Int) (ts : Option tPhi) : Prop :=
  (kd t ≠ 282 ∧ ok = true ∧ t' = t ∧ p' = p ∧ ts = none) ∨
  (kd t = 282 ∧ ((ok = false ∧ ∃ p1 f, Gr lw kd nm 9 0 (t + 1) p pZ false t' p1 f) ∨ (ok = true ∧ ∃ f, Gr lw kd nm 9 0 (t + 1) p pZ true t' p' f ∧ ts = some f)))
def ClG (lw : Bool) (kd nm : Int → Int) (t p : Int) (ok : Bool) (t' p' : Int) (x : tKl) : Prop :=
  (¬ (0 ≤ kd t - hdL lw ∧ kd t - hdL lw ≤ laL lw) ∧ ok = false ∧ t' = t) ∨
  ((0 ≤ kd t - hdL lw ∧ kd t - hdL lw ≤ laL lw) ∧ x.1 = kd t - hdL lw ∧
    ((ok = false ∧ ∃ p1 fs, MG lw kd nm (mvL lw (kd t - hdL lw)) (t + 1) p false t' p1 fs) ∨
      ∃ t1 p1, MG lw kd nm (mvL lw (kd t - hdL lw)) (t + 1) p true t1 p1 x.2.2.2 ∧
        ((ok = false ∧ ∃ n, TmG lw kd nm t1 false t' n) ∨ ∃ t2, TmG lw kd nm t1 true t2 x.2.1 ∧ IfG lw kd nm t2 p1 ok t' p' x.2.2.1)))
/-- a text, from its c-th clause on, k clauses at most -/
def TxG (lw : Bool) (kd nm : Int → Int) : Nat → Nat → Int → Int → Bool → Int → (Nat → tKl) → Nat → Prop
  | 0, _, t, _, ok, t', _, _ => ok = false ∧ t' = t
  | k + 1, c, t, p, ok, t', C, N =>
    (ok = false ∧ ∃ p1 x, ClG lw kd nm t p false t' p1 x) ∨
    ∃ t1 p1, ClG lw kd nm t p true t1 p1 (C c) ∧
      ((kd t1 = 256 ∧ ok = true ∧ t' = t1 ∧ N = c + 1) ∨ (kd t1 ≠ 256 ∧ kd t1 ≠ 59 ∧ ok = false ∧ t' = t1) ∨ (kd t1 = 59 ∧ TxG lw kd nm k (c + 1) (t1 + 1) p1 ok t' C N))
theorem Cd.grow {code code' : Int → Int} {len len' a nw : Int} {f : tPhi} (h : Cd code len a f nw) (e : ∀ j, j < len → code' j = code j) (h1 : len ≤ len') (h2 : len' ≤ 1000) : Cd code' len' a f nw := by
  obtain ⟨b, m, ⟨a0, ab, bl, l1⟩, hm, hb, hs⟩ := h
  exact ⟨b, m, ⟨a0, ab, by omega, h2⟩, hm, by rw [e b (by omega)]; exact hb, hs.congr fun j j0 j1 => e j (by omega)⟩
def FrX (F E F' E' : Int → Int → Int) : Prop := (∀ r, r ≠ 28 → r ≠ 29 → E' r = E r) ∧ FS F' ∧ (∀ a k, ¬ (a = 20 ∧ (k = 3 ∨ k = 4)) → ¬ (a = 27 ∧ (k = 2 ∨ k = 3)) → F' a k = F a k) ∧ (∀ j, j < F 27 3 → E' 29 j = E 29 j) ∧ F 27 3 ≤ F' 27 3
theorem FrX.refl {F E : Int → Int → Int} (h : FS F) : FrX F E F E := ⟨fun _ _ _ => rfl, h, fun _ _ _ _ => rfl, fun _ _ => rfl, Int.le_refl _⟩
theorem FrX.trans {F E F' E' F'' E'' : Int → Int → Int} (h : FrX F E F' E') (h' : FrX F' E' F'' E'') : FrX F E F'' E'' := ⟨fun r a b => (h'.1 r a b).trans (h.1 r a b), h'.2.1, fun a k q1 q2 => (h'.2.2.1 a k q1 q2).trans (h.2.2.1 a k q1 q2), fun j hj => (h'.2.2.2.1 j (by have := h.2.2.2.2; omega)).trans (h.2.2.2.1 j hj), Int.le_trans h.2.2.2.2 h'.2.2.2.2⟩
theorem FrL.x {F E F' E' : Int → Int → Int} (h : FrL F E F' E') : FrX F E F' E' := ⟨fun r _ b => h.1 r b, h.2.1, fun a k q1 q2 => h.2.2.1 a k q1 (by omega), h.2.2.2.1, h.2.2.2.2⟩
theorem FrX.row {F E F' E' : Int → Int → Int} {k v : Int} (h : FrX F E F' E') : FrX F E F' (pUp E' 28 k v) := ⟨fun r a b => by rw [pUp_an a]; exact h.1 r a b, h.2.1, h.2.2.1, fun j hj => by rw [pUp_an (by decide)]; exact h.2.2.2.1 j hj, h.2.2.2.2⟩
theorem FrX.at {F E F' E' : Int → Int → Int} {k v : Int} (h : FrX F E F' E') (hk : k = 3 ∨ k = 4) : FrX F E (pUp F' 20 k v) E' := by
  refine ⟨h.1, ?_, fun a j q1 q2 => ?_, h.2.2.2.1, by rw [pUp_a (by decide)]; exact h.2.2.2.2⟩
  · rcases hk with e | e <;> subst e <;> exact h.2.1.up (by decide)
  · unfold pUp
    rw [if_neg (by omega)]
    exact h.2.2.1 a j q1 q2
theorem FrX.e {F E F' E' : Int → Int → Int} (h : FrX F E F' E') : E' 24 = E 24 ∧ E' 26 = E 26 ∧ E' 25 = E 25 := ⟨h.1 24 (by decide) (by decide), h.1 26 (by decide) (by decide), h.1 25 (by decide) (by decide)⟩
/-- between two pieces -/
def PreX (lw : Bool) (T t p : Int) (K : Int → Nat × Nat) (F E : Int → Int → Int) : Prop :=
  (KS K ∧ FS F) ∧ (F 20 2 = if lw = true then 1 else 0) ∧ (F 20 4 = t ∧ 0 ≤ t ∧ t ≤ T ∧ T ≤ 400) ∧ (F 20 3 = p ∧ 0 ≤ p ∧ p ≤ 50) ∧ (E 24 T = 256 ∧ ∀ s, 0 ≤ s → s < T → 0 ≤ E 26 s ∧ E 26 s ≤ 1001) ∧ 0 ≤ F 27 3 ∧ F 27 3 ≤ 2 * t
theorem PreX.l {lw : Bool} {T t p : Int} {K : Int → Nat × Nat} {F E : Int → Int → Int} (h : PreX lw T t p K F E) (z : F 27 3 + 2 ≤ 2 * t) : PreL lw T t p K F E := by
  obtain ⟨a1, a2, a3, a4, a5, a6, _⟩ := h
  exact ⟨a1, a2, a3, a4, a5, a6, z⟩
theorem PreL.x {lw : Bool} {T t p : Int} {K : Int → Nat × Nat} {F E : Int → Int → Int} (h : PreL lw T t p K F E) : PreX lw T t p K F E := by
  obtain ⟨a1, a2, a3, a4, a5, a6, z⟩ := h
  exact ⟨a1, a2, a3, a4, a5, a6, by omega⟩
theorem PreX.lt {lw : Bool} {T t p : Int} {K : Int → Nat × Nat} {F E : Int → Int → Int} (h : PreX lw T t p K F E) (z : E 24 t ≠ 256) : t < T := by
  obtain ⟨_, _, ⟨_, _, b, _⟩, _, ⟨e, _⟩, _⟩ := h
  by_cases q : t = T
  · subst q; exact absurd e z
  · omega
theorem PreX.next {lw : Bool} {T t p t' p' : Int} {K : Int → Nat × Nat} {F E F' E' : Int → Int → Int} (h : PreX lw T t p K F E) (w : FrX F E F' E') (e4 : F' 20 4 = t') (e3 : F' 20 3 = p') (h1 : 0 ≤ t' ∧ t' ≤ T) (h2 : 0 ≤ p' ∧ p' ≤ 50) (h3 : F' 27 3 ≤ 2 * t') : PreX lw T t' p' K F' E' := by
  obtain ⟨⟨a1, a2⟩, a3, ⟨a4, a5, a6, a7⟩, ⟨b1, b2, b3⟩, ⟨c1, c2⟩, c3, c4⟩ := h
  refine ⟨⟨a1, w.2.1⟩, by rw [w.2.2.1 20 2 (by omega) (by omega)]; exact a3, ⟨e4, h1.1, h1.2, a7⟩, ⟨e3, h2.1, h2.2⟩, ?_, by have := w.2.2.2.2; omega, h3⟩
  rw [w.e.1, w.e.2.1]
  exact ⟨c1, c2⟩
section C
variable {l : Launch} {G : pG} {bg : Nat × Nat} {n : Nat} {K : Int → Nat × Nat} {F E : Int → Int → Int} {Q : Option pV → pM → Prop} {lw : Bool} {T t p : Int}
theorem c_skipX {k : Int} (h : PreX lw T t p K F E) (hk : k ≠ 256) (hQ0 : E 24 t ≠ k → Q (some (0, 0)) (n, K, F, E)) (hQ1 : E 24 t = k → Q (some (0, 1)) (n, K, pUp F 20 4 (t + 1), E)) : PC l G 0 mX5_skip bg [(2, 20), (0, k)] (n, K, F, E) Q := by
  obtain ⟨⟨hK, hF⟩, _, ⟨h4, t0, t1, T1⟩, _⟩ := h
  refine vX5_skip_0 20 k ?_
  simp only [hF.f20_0, hF.f21_1, hK.k20, hK.k21, hK.k24, h4]
  refine ⟨trivial, trivial, trivial, by omega, hQ0, fun z => ⟨fun _ => ⟨by omega, fun F1 f1 => ?_⟩, fun y => absurd y hk⟩⟩
  rw [f1]
  exact hQ1 z
/-- a whole sum -/
theorem c_readWhole {i : Int} (i0 : 0 ≤ i) (i3 : i < 3) (h : PreL lw T t p K F E) (c1 : 1 ≤ F 27 2) (c12 : F 27 2 ≤ 12)
    (hQ0 : ∀ F' E' t' p1 f, FrX F E F' E' → F' 20 4 = t' → t ≤ t' → t' ≤ T → Gr lw (E 24) (E 26) 3 0 t p pZ false t' p1 f → Q (some (0, 0)) (n, K, F', E'))
    (hQ1 : ∀ F' E' t' p' f, FrX F E F' E' → F' 27 2 = F 27 2 → E' 28 = rUp (E 28) ((F 27 2 - 1) * 6 + (3 + i)) (F 27 3) → PreX lw T t' p' K F' E' → t < t' → p ≤ p' → Cd (E' 29) (F' 27 3) (F 27 3) f (nwL lw) → PhOk f (nwL lw) → Gr lw (E 24) (E 26) 3 0 t p pZ true t' p' f → Q (some (0, 1)) (n, K, F', E')) : PC l G 61 mX5_readWhole bg [(2, 20), (0, i)] (n, K, F, E) Q := by
  have h' := h
  obtain ⟨⟨hK, hF⟩, h2, ⟨h4, t0, t1, T1⟩, ⟨h3, p0, p1⟩, ⟨hT, hn⟩, l0, l1⟩ := h'
  refine vX5_readWhole_0 20 i ?_
  simp only [hF.f20_1, hF.f27_0, hK.k20, hK.k27, hK.k28]
  refine ⟨trivial, trivial, by omega, by omega, by omega, by omega, by decide, trivial, by omega, fun E1 e1 => ?_⟩
  have w1 : FrX F E F E1 := by rw [e1]; exact (FrX.refl hF).row
  have r24 : E1 24 = E 24 := w1.e.1
  have r26 : E1 26 = E 26 := w1.e.2.1
  have pre1 : PreL lw T t p K F E1 := by
    refine ⟨⟨hK, hF⟩, h2, ⟨h4, t0, t1, T1⟩, ⟨h3, p0, p1⟩, ?_, l0, l1⟩
    rw [r24, r26]; exact ⟨hT, hn⟩
  refine c_sums 8 0 60 (by decide) (by decide) (by decide) (0, 0) n K F E1 _ T t p pre1 ⟨fun F2 E2 t' p' f w2 b4 b1 b2 g => ?_, fun F2 E2 t' p' f w2 b4 b3 b1 b2 b5 b6 b7 sg ph g => ?_⟩
  · rw [r24, r26] at g
    exact vX5_readWhole_31 20 0 ⟨fun z => absurd rfl z, fun _ => hQ0 F2 E2 t' p' f (w1.trans w2.x) b4 b1 b2 g⟩
  · rw [r24, r26] at g
    have hF2 := w2.2.1
    have g2 := w2.2.2.2.2
    refine vX5_readWhole_31 20 1 ⟨fun _ => ⟨by rw [hK.k20], by rw [hF2.f20_1, hK.k27], ?_⟩, fun z => absurd z (by decide)⟩
    rw [hF2.f20_1]
    refine c_emit hK hF2 (by omega) (by omega) fun F5 E5 w5 c3 ca cb ck => vX5_readWhole_45 _ ?_
    have w25 := w2.x.trans w5.x
    have e28 : E5 28 = rUp (E 28) ((F 27 2 - 1) * 6 + (3 + i)) (F 27 3) := by
      rw [w5.1 28 (by decide), w2.1 28 (by decide), e1, pUp_row, pRow1, if_pos rfl]
    refine hQ1 F5 E5 t' p' f (w1.trans w25) ?_ e28 ?_ b1 (by omega) ⟨F2 27 3, p' - p, ⟨l0, g2, by omega, by omega⟩, by omega, ca, sg.congr fun j j0 j1 => w5.2.2.2.1 j (by omega)⟩ ph g
    · rw [w5.2.2.1 27 2 (by omega) (by omega), w2.2.2.1 27 2 (by omega) (by omega)]
    · exact h.x.next (w1.trans w25) (by rw [ck 4]; exact b4) (by rw [ck 3]; exact b3) (by omega) (by omega) (by omega)
end C
