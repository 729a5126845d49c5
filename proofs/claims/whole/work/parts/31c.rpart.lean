/-! THE REFERENCE READS: its state, and a part that isn't a bracket -/
def innE (E : Int → Int → Int) : Nat → Int
  | 0 => -1
  | i + 1 => if E 79 (i : Int) < 31 then innE E i else E 79 (i : Int)
def inn : List It → Int
  | [] => -1
  | x :: L => if x.1 < 31 then inn L else x.1
theorem innE_eq {E : Int → Int → Int} (L : List It) : PileM E L → innE E L.length = inn L := by
  induction L with
  | nil => intro _; rfl
  | cons x L ih =>
    intro h
    show (if E 79 (L.length : Int) < 31 then innE E L.length else E 79 (L.length : Int)) = if x.1 < 31 then inn L else x.1
    rw [h.1.1, ih h.2.2]
def cmpd : List It → Prop
  | [] => False
  | x :: L => (25 ≤ x.1 ∧ x.1 ≤ 27) ∨ ((20 ≤ x.1 ∧ x.1 ≤ 24) ∧ cmpd L)
theorem innE_s {E : Int → Int → Int} {i : Nat} : innE E (i + 1) = if E 79 (i : Int) < 31 then innE E i else E 79 (i : Int) := rfl
section A
variable {l : Launch} {G : pG} {bg : Nat × Nat} {n : Nat} {K : Int → Nat × Nat} {F E : Int → Int → Int} {Q : Option pV → pM → Prop}
theorem r_inner_4 {N : Nat} (hK : KS K) (hF : FS F) (h29 : F 66 29 = (N : Int)) (l1 : (N : Int) ≤ 400) (m : Nat) : ∀ i : Nat, i + m = N → Q (some (0, innE E N)) (n, K, F, E) → PW l G 0 mX12_inner bg 4 [(0, (2, 66)), (1, (0, innE E i)), (2, (0, (i : Int)))] [] (n, K, F, E) Q := by
  induction m with
  | zero =>
    intro i e hQ
    have : i = N := by omega
    subst this
    refine vX12_inner_4 66 _ _ ⟨by rw [hK.k66], fun _ => hQ, fun z => absurd z (by omega)⟩
  | succ m ih =>
    intro i e hQ
    have z := ih (i + 1) (by omega) hQ
    rw [innE_s, show ((i + 1 : Nat) : Int) = (i : Int) + 1 by omega] at z
    refine vX12_inner_4 66 _ _ ?_
    simp only [hF.f66_27, hK.k66, hK.k79]
    refine ⟨trivial, fun y => absurd y (by omega), fun _ => ⟨trivial, by omega, fun y => ⟨by omega, ?_⟩, fun y => ⟨by omega, ?_⟩⟩⟩
    · rw [if_pos y] at z; exact z
    · rw [if_neg y] at z; exact z
theorem r_inner {L : List It} (hK : KS K) (hF : FS F) (hp : PileM E L) (h29 : F 66 29 = (L.length : Int)) (l1 : (L.length : Int) ≤ 400) (hQ : Q (some (0, inn L)) (n, K, F, E)) : PC l G 0 mX12_inner bg [(2, 66)] (n, K, F, E) Q :=
  vX12_inner_0 66 (r_inner_4 (N := L.length) hK hF h29 l1 L.length 0 (by omega) (by rw [innE_eq L hp]; exact hQ))
theorem r_isCompared_7 (hK : KS K) (hF : FS F) (L : List It) : PileM E L → (L.length : Int) ≤ 400 → (cmpd L → Q (some (0, 1)) (n, K, F, E)) → (¬ cmpd L → Q (some (0, 0)) (n, K, F, E)) → PW l G 1 mX12_isCompared bg 7 [(0, (2, 66)), (1, (0, (L.length : Int) - 1))] [] (n, K, F, E) Q := by
  induction L with
  | nil =>
    intro _ _ _ h0
    exact vX12_isCompared_7 66 _ ⟨fun _ => ⟨fun _ => h0 id, fun z => absurd (by decide) z⟩, fun z => absurd (by decide) z⟩
  | cons x L ih =>
    intro hp l1 h1 h0
    have ln : ((x :: L).length : Int) = L.length + 1 := by show ((L.length + 1 : Nat) : Int) = L.length + 1; omega
    have e : ((x :: L).length : Int) - 1 = L.length := by omega
    rw [e]
    refine vX12_isCompared_7 66 _ ?_
    simp only [hF.f66_27, hK.k66, hK.k79, hp.1.1]
    refine ⟨fun z => absurd z (by omega), fun _ => ⟨trivial, trivial, by omega, fun z => ⟨fun y => absurd y (by omega), fun _ => ⟨fun y => h0 ?_, fun y => h1 (Or.inl y)⟩⟩, fun z => ⟨by omega, ?_⟩⟩⟩
    · rintro (w | w)
      · exact y w
      · exact z w.1
    · have q := ih hp.2.2 (by omega) (fun w => h1 (Or.inr ⟨z, w⟩)) (fun w => h0 (by
        rintro (v | v)
        · omega
        · exact w v.2))
      exact q
theorem r_isCompared {L : List It} (hK : KS K) (hF : FS F) (hp : PileM E L) (h29 : F 66 29 = (L.length : Int)) (l1 : (L.length : Int) ≤ 400) (h1 : cmpd L → Q (some (0, 1)) (n, K, F, E)) (h0 : ¬ cmpd L → Q (some (0, 0)) (n, K, F, E)) : PC l G 1 mX12_isCompared bg [(2, 66)] (n, K, F, E) Q := by
  refine vX12_isCompared_0 66 ?_
  rw [h29]
  exact ⟨by rw [hK.k66], by omega, r_isCompared_7 hK hF L hp l1 h1 h0⟩
end A
/-- the state of the reference at the token t -/
def RSt (lw : Bool) (tp : Int → Int) (len : Int) (T : Nat) (K : Int → Nat × Nat) (F E : Int → Int → Int) (t p d c : Int) (L : List It) : Prop :=
  (KS K ∧ FS F ∧ ES E) ∧ (F 66 13 = len ∧ E 75 = tp) ∧ AtT tp len F t ∧ (0 ≤ t ∧ t ≤ T) ∧ (F 66 19 = 0 ∧ F 66 20 = if lw = true then 0 else 1) ∧ (F 66 23 = c ∧ F 66 26 = p ∧ F 66 30 = d ∧ F 66 29 = (L.length : Int)) ∧ (0 ≤ c ∧ 0 ≤ p ∧ p ≤ 50 ∧ 0 ≤ d ∧ d ≤ 8) ∧ PileM E L ∧ (c + em L ≤ t ∧ (L.length : Int) ≤ t)
/-- it can't be, at the token t -/
def FlR (tp : Int → Int) (len : Int) (F E : Int → Int → Int) (t : Int) (F' E' : Int → Int → Int) : Prop := FrQ F E F' E' ∧ F' 66 19 = 1 ∧ F' 66 18 = tB tp len t ∧ ∃ L, PileM E' L ∧ F' 66 29 = (L.length : Int) ∧ (L.length : Int) ≤ 400 ∧ 0 ≤ F' 66 23 ∧ F' 66 23 + em L ≤ 400
theorem FlR.pre {tp : Int → Int} {len t : Int} {F E F1 E1 F' E' : Int → Int → Int} (w : FrQ F E F1 E1) (h : FlR tp len F1 E1 t F' E') : FlR tp len F E t F' E' := ⟨w.trans h.1, h.2⟩
section B
variable {l : Launch} {G : pG} {bg : Nat × Nat} {n : Nat} {K : Int → Nat × Nat} {F E : Int → Int → Int} {Q : Option pV → pM → Prop} {lw : Bool} {tp : Int → Int} {len : Int} {T : Nat} {kd nm : Int → Int} {t p d c : Int} {L : List It}
theorem RSt.mk' {F' E' : Int → Int → Int} {t' p' d' c' : Int} {L' : List It} (h : RSt lw tp len T K F E t p d c L) (w : FrQ F E F' E') (a : AtT tp len F' t') (tr : 0 ≤ t' ∧ t' ≤ T) (b : F' 66 19 = 0) (v : F' 66 23 = c' ∧ F' 66 26 = p' ∧ F' 66 30 = d' ∧ F' 66 29 = (L'.length : Int)) (r : 0 ≤ c' ∧ 0 ≤ p' ∧ p' ≤ 50 ∧ 0 ≤ d' ∧ d' ≤ 8) (q : PileM E' L') (s : c' + em L' ≤ t' ∧ (L'.length : Int) ≤ t') : RSt lw tp len T K F' E' t' p' d' c' L' := by
  obtain ⟨⟨a1, a2, a3⟩, ⟨a4, a5⟩, a6, a7, ⟨a8, a9⟩, _⟩ := h
  exact ⟨⟨a1, w.2.1, w.es a3⟩, ⟨by rw [w.2.2 66 13 (by omega)]; exact a4, by rw [w.e]; exact a5⟩, a, tr, ⟨b, by rw [w.2.2 66 20 (by omega)]; exact a9⟩, v, r, q, s⟩
theorem RSt.fail (hE : TkE tp len T kd nm) (h : RSt lw tp len T K F E t p d c L) : FlR tp len F E t (pUp (pUp F 66 19 1) 66 18 (F 66 14)) E := by
  obtain ⟨⟨a1, a2, a3⟩, ⟨a4, a5⟩, a6, a7, ⟨a8, a9⟩, ⟨b1, b2, b3, b4⟩, b5, b6, b7⟩ := h
  have := hE.1
  have := hE.2.2.1.2
  refine ⟨((FrQ.refl a2).up (by omega)).up (by omega), by rw [pUp_k (by decide), pUp_s], by rw [pUp_s]; exact a6.1, L, b6, by rw [pUp_k (by decide), pUp_k (by decide)]; exact b4, by omega, ?_, ?_⟩
  · rw [pUp_k (by decide), pUp_k (by decide)]; omega
  · rw [pUp_k (by decide), pUp_k (by decide)]; omega
theorem r_leafF {i o a : Int} (h : RSt lw tp len T K F E t p d c L) (z : i = 0 ∨ 50 ≤ p) (hQ : Q none (n, K, pUp (pUp F 66 19 1) 66 18 (F 66 14), E)) : PC l G 3 mX12_leaf bg [(2, 66), (0, i), (0, o), (0, a)] (n, K, F, E) Q := by
  obtain ⟨⟨a1, a2, a3⟩, ⟨a4, a5⟩, a6, a7, ⟨a8, a9⟩, ⟨b1, b2, b3, b4⟩, b5, b6, b7⟩ := h
  have r : PC l G 2 mX12_must (0, 0) [(2, 66), (0, 0)] (n, K, F, E) (fun r μ => PW l G 3 mX12_leaf bg 22 [(0, (2, 66)), (2, (0, o)), (3, (0, a))] (r.toList ++ []) μ Q) := by
    refine r_mustF a1 a8 (vX12_leaf_22 66 o a ⟨by rw [a1.k66], fun _ => hQ, fun y => ?_⟩)
    rw [pUp_k (by decide), pUp_s] at y
    exact absurd y (by decide)
  refine vX12_leaf_0 66 i o a ⟨fun _ => ⟨by rw [a1.k66], r⟩, fun y => ⟨by rw [a1.k66], fun _ => r, fun x => ?_⟩⟩
  rcases z with z | z
  · exact absurd z y
  · omega
theorem r_leafT {i o a : Int} (hE : TkE tp len T kd nm) (h : RSt lw tp len T K F E t p d c L) (z : i ≠ 0) (p50 : p < 50) (tl : t < T) (hQ : ∀ F' E', FrQ F E F' E' → E' 77 = rUp (E 77) c o → E' 78 = rUp (E 78) c a → RSt lw tp len T K F' E' (t + 1) (p + 1) d (c + 1) L → Q none (n, K, F', E')) : PC l G 3 mX12_leaf bg [(2, 66), (0, i), (0, o), (0, a)] (n, K, F, E) Q := by
  have h' := h
  obtain ⟨⟨a1, a2, a3⟩, ⟨a4, a5⟩, a6, a7, ⟨a8, a9⟩, ⟨b1, b2, b3, b4⟩, b5, b6, b7⟩ := h'
  have hl := hE.1
  have hT := hE.2.2.1.2
  have ep := em_pos L
  refine vX12_leaf_0 66 i o a ⟨fun y => absurd y z, fun _ => ⟨by rw [a1.k66], fun y => absurd y (by omega), fun _ => r_mustT (by decide) a1 a2 hE a5 a4 a8 a6 a7.1 tl fun F1 w1 at1 => vX12_leaf_22 66 o a ?_⟩⟩
  have hF1 := w1.1
  have g : ∀ k, (k < 14 ∨ 17 < k) → F1 66 k = F 66 k := fun k hk => w1.2 66 k (by omega)
  simp only [hF1.f66_24, hF1.f66_25, a1.k66, a1.k77, a1.k78, g 23 (by omega), g 26 (by omega), g 19 (by omega), b1, b2]
  refine ⟨trivial, fun y => absurd a8 y, fun _ => ⟨by decide, trivial, by omega, fun E1 e1 => ⟨by decide, trivial, by omega, fun E2 e2 => ⟨by omega, fun F3 f3 => ⟨by omega, fun F4 f4 => ?_⟩⟩⟩⟩⟩
  have wr : FrQ F E F4 E2 := by
    rw [f4, f3, e2, e1]
    exact (((w1.r.up (by omega)).up (by omega)).row (by omega)).row (by omega)
  have k4 : ∀ k, k ≠ 23 → k ≠ 26 → F4 66 k = F1 66 k := fun k q1 q2 => by rw [f4, f3, pUp_k q2, pUp_k q1]
  have r77 : E2 77 = rUp (E 77) c o := by rw [e2, pUp_an (by decide), e1, pUp_row, pRow1, if_pos rfl]
  have r78 : E2 78 = rUp (E 78) c a := by rw [e2, pUp_row, pRow1, if_pos rfl, e1, pUp_an (by decide)]
  refine hQ F4 E2 wr r77 r78 (h.mk' wr ?_ (by omega) ?_ ⟨by rw [f4, pUp_k (by decide), f3, pUp_s], by rw [f4, pUp_s], ?_, ?_⟩ (by omega) (PileM.congr L b6 fun j _ => by rw [e2, pUp_an (by decide), pUp_an (by decide), e1, pUp_an (by decide), pUp_an (by decide)]; exact ⟨rfl, rfl⟩) (by omega))
  · unfold AtT
    rw [k4 14 (by decide) (by decide), k4 15 (by decide) (by decide), k4 16 (by decide) (by decide), k4 17 (by decide) (by decide), k4 18 (by decide) (by decide)]
    exact at1
  · rw [k4 19 (by decide) (by decide), g 19 (by omega)]; exact a8
  · rw [k4 30 (by decide) (by decide), g 30 (by omega)]; exact b3
  · rw [k4 29 (by decide) (by decide), g 29 (by omega)]; exact b4
/-- the word of a law at its place -/
def wkL (j : Int) : Int := if j = 0 then 260 else if j = 1 then 261 else if j = 2 then 262 else if j = 3 then 263 else if j = 4 then 264 else if j = 5 then 259 else if j = 6 then 265 else if j = 7 then 267 else 266
def wkO (j : Int) : Int := if j = 6 then 259 else 267 + j
theorem wkL_at (hE : TkE tp len T kd nm) (h : RSt lw tp len T K F E t p d c L) {j : Int} (j0 : 0 ≤ j) (j1 : j < 9) : (F 66 16 = 1 ∧ F 66 17 = E 81 j) ↔ kd t = wkL j := by
  have es := h.1.2.2
  have a := h.2.2.1
  have t0 := h.2.2.2.1
  have q : j = 0 ∨ j = 1 ∨ j = 2 ∨ j = 3 ∨ j = 4 ∨ j = 5 ∨ j = 6 ∨ j = 7 ∨ j = 8 := by omega
  rcases q with e | e | e | e | e | e | e | e | e <;> subst e
  · rw [show E 81 0 = 496 from es (81, 0, 496) (by decide)]; exact at_word 1 (by decide) rfl hE a t0.1 t0.2
  · rw [show E 81 1 = 624248366574 from es (81, 1, 624248366574) (by decide)]; exact at_word 2 (by decide) rfl hE a t0.1 t0.2
  · rw [show E 81 2 = 1 from es (81, 2, 1) (by decide)]; exact at_word 3 (by decide) rfl hE a t0.1 t0.2
  · rw [show E 81 3 = 2 from es (81, 3, 2) (by decide)]; exact at_word 4 (by decide) rfl hE a t0.1 t0.2
  · rw [show E 81 4 = 632645 from es (81, 4, 632645) (by decide)]; exact at_word 5 (by decide) rfl hE a t0.1 t0.2
  · rw [show E 81 5 = 21780338323 from es (81, 5, 21780338323) (by decide)]; exact at_word 0 (by decide) rfl hE a t0.1 t0.2
  · rw [show E 81 6 = 13683059 from es (81, 6, 13683059) (by decide)]; exact at_word 6 (by decide) rfl hE a t0.1 t0.2
  · rw [show E 81 7 = 20579760 from es (81, 7, 20579760) (by decide)]; exact at_word 8 (by decide) rfl hE a t0.1 t0.2
  · rw [show E 81 8 = 441828 from es (81, 8, 441828) (by decide)]; exact at_word 7 (by decide) rfl hE a t0.1 t0.2
theorem wkO_at (hE : TkE tp len T kd nm) (h : RSt lw tp len T K F E t p d c L) {j : Int} (j0 : 0 ≤ j) (j1 : j < 7) : (F 66 16 = 1 ∧ F 66 17 = E 82 j) ↔ kd t = wkO j := by
  have es := h.1.2.2
  have a := h.2.2.1
  have t0 := h.2.2.2.1
  have q : j = 0 ∨ j = 1 ∨ j = 2 ∨ j = 3 ∨ j = 4 ∨ j = 5 ∨ j = 6 := by omega
  rcases q with e | e | e | e | e | e | e <;> subst e
  · rw [show E 82 0 = 20579760 from es (82, 0, 20579760) (by decide)]; exact at_word 8 (by decide) rfl hE a t0.1 t0.2
  · rw [show E 82 1 = 146885 from es (82, 1, 146885) (by decide)]; exact at_word 9 (by decide) rfl hE a t0.1 t0.2
  · rw [show E 82 2 = 404362868 from es (82, 2, 404362868) (by decide)]; exact at_word 10 (by decide) rfl hE a t0.1 t0.2
  · rw [show E 82 3 = 19515749011 from es (82, 3, 19515749011) (by decide)]; exact at_word 11 (by decide) rfl hE a t0.1 t0.2
  · rw [show E 82 4 = 17048404639315 from es (82, 4, 17048404639315) (by decide)]; exact at_word 12 (by decide) rfl hE a t0.1 t0.2
  · rw [show E 82 5 = 267652 from es (82, 5, 267652) (by decide)]; exact at_word 13 (by decide) rfl hE a t0.1 t0.2
  · rw [show E 82 6 = 21780338323 from es (82, 6, 21780338323) (by decide)]; exact at_word 0 (by decide) rfl hE a t0.1 t0.2
theorem r_partAt_4 (hE : TkE tp len T kd nm) (h : RSt lw tp len T K F E t p d c L) (m : Nat) : ∀ k x : Int, k + m = 9 → 0 ≤ k → (∀ v, ((v = x ∧ ∀ j, k ≤ j → j < 9 → kd t ≠ wkL j) ∨ ∃ j, 0 ≤ j ∧ j < 9 ∧ kd t = wkL j ∧ v = j + 1) → Q (some (0, v)) (n, K, F, E)) → PW l G 1 mX12_partAt bg 4 [(0, (2, 66)), (1, (0, x)), (2, (0, k))] [] (n, K, F, E) Q := by
  have hK := h.1.1
  have hF := h.1.2.1
  induction m with
  | zero =>
    intro k x e k0 hQ
    exact vX12_partAt_4 66 x k ⟨fun _ => hQ x (Or.inl ⟨rfl, fun j j0 j1 => absurd j0 (by omega)⟩), fun z => absurd z (by omega)⟩
  | succ m ih =>
    intro k x e k0 hQ
    have q := wkL_at (j := k) hE h k0 (by omega)
    refine vX12_partAt_4 66 x k ⟨fun z => absurd z (by omega), fun _ => ?_⟩
    simp only [hF.f66_31, hK.k66, hK.k81]
    refine ⟨trivial, by decide, trivial, by omega, fun z => ⟨by omega, ih (k + 1) x (by omega) (by omega) fun v hv => hQ v ?_⟩, fun z => ⟨by omega, ih (k + 1) (k + 1) (by omega) (by omega) fun v hv => hQ v ?_⟩⟩
    · rcases hv with ⟨v1, v2⟩ | v
      · refine Or.inl ⟨v1, fun j j0 j1 => ?_⟩
        by_cases y : j = k
        · rw [y]; exact fun w => z (q.mpr w)
        · exact v2 j (by omega) j1
      · exact Or.inr v
    · rcases hv with ⟨v1, v2⟩ | v
      · exact Or.inr ⟨k, k0, by omega, q.mp z, v1⟩
      · exact Or.inr v
theorem r_orderPartAt_4 (hE : TkE tp len T kd nm) (h : RSt lw tp len T K F E t p d c L) (m : Nat) : ∀ k x : Int, k + m = 7 → 0 ≤ k → (∀ v, ((v = x ∧ ∀ j, k ≤ j → j < 7 → kd t ≠ wkO j) ∨ ∃ j, 0 ≤ j ∧ j < 7 ∧ kd t = wkO j ∧ v = j + 1) → Q (some (0, v)) (n, K, F, E)) → PW l G 1 mX12_orderPartAt bg 4 [(0, (2, 66)), (1, (0, x)), (2, (0, k))] [] (n, K, F, E) Q := by
  have hK := h.1.1
  have hF := h.1.2.1
  induction m with
  | zero =>
    intro k x e k0 hQ
    exact vX12_orderPartAt_4 66 x k ⟨fun _ => hQ x (Or.inl ⟨rfl, fun j j0 j1 => absurd j0 (by omega)⟩), fun z => absurd z (by omega)⟩
  | succ m ih =>
    intro k x e k0 hQ
    have q := wkO_at (j := k) hE h k0 (by omega)
    refine vX12_orderPartAt_4 66 x k ⟨fun z => absurd z (by omega), fun _ => ?_⟩
    simp only [hF.f66_32, hK.k66, hK.k82]
    refine ⟨trivial, by decide, trivial, by omega, fun z => ⟨by omega, ih (k + 1) x (by omega) (by omega) fun v hv => hQ v ?_⟩, fun z => ⟨by omega, ih (k + 1) (k + 1) (by omega) (by omega) fun v hv => hQ v ?_⟩⟩
    · rcases hv with ⟨v1, v2⟩ | v
      · refine Or.inl ⟨v1, fun j j0 j1 => ?_⟩
        by_cases y : j = k
        · rw [y]; exact fun w => z (q.mpr w)
        · exact v2 j (by omega) j1
      · exact Or.inr v
    · rcases hv with ⟨v1, v2⟩ | v
      · exact Or.inr ⟨k, k0, by omega, q.mp z, v1⟩
      · exact Or.inr v
theorem r_number_0 {a b : Int} (h : ((¬ (F 66 16) = 2 ∨ ¬ (a ≤ F 66 17 ∧ F 66 17 ≤ b)) → PC l G 2 mX12_must (0, 0) [(2, 66), (0, 0)] (n, K, F, E) (fun r μ => PW l G 3 mX12_number bg 36 [(5, (0, w32 (F 66 17)))] (r.toList ++ []) μ Q)) ∧ ((F 66 16 = 2 ∧ a ≤ F 66 17 ∧ F 66 17 ≤ b) → PC l G 2 mX12_must (0, 0) [(2, 66), (0, 1)] (n, K, F, E) (fun r μ => PW l G 3 mX12_number bg 36 [(5, (0, w32 (F 66 17)))] (r.toList ++ []) μ Q))) (hK : KS K) : PW l G 3 mX12_number bg 0 [(0, (2, 66)), (1, (1, a)), (3, (1, b))] [] (n, K, F, E) Q := by
  have c1 : (K 66).1 = 12 := by rw [hK.k66]
  refine s_aload_n (q := 1) 0 0 rfl rfl ?_
  refine n_getf (q := 4) (jj := 17) 1 12 17 rfl kX12_262 c1 ?_
  refine s_l2i (q := 5) 2 rfl ?_
  refine s_istore (q := 7) (lv' := [(5, (0, w32 (F 66 17))), (0, (2, 66)), (1, (1, a)), (3, (1, b))]) 3 rfl rfl ?_
  refine s_aload_n (q := 8) 4 1 rfl rfl ?_
  refine s_aload_n (q := 9) 5 1 rfl rfl ?_
  refine n_getf (q := 12) (jj := 16) 6 12 16 rfl kX12_272 c1 ?_
  refine s_iconst (q := 13) 7 rfl ?_
  refine s_icmp_ne (q := 16) (tgt := 32) 8 rfl rfl (fun hb => ?_) (fun hb => ?_)
  · replace h := h.1 (Or.inl hb)
    refine s_iconst (q := 33) 17 rfl ?_
    refine PW.pick [0] rfl ?_
    exact n_callV (N := mX12_must) (as := [(0, 0)]) (st := []) (q := 36) (d' := 2) 18 rfl uX12_must kX12_285 rfl c1 h
  · have hb := Classical.not_not.mp hb
    refine s_aload_n (q := 17) 9 1 rfl rfl ?_
    refine n_getf (q := 20) (jj := 17) 10 12 17 rfl kX12_262 c1 ?_
    refine s_lload_n (q := 21) 11 2 rfl rfl ?_
    refine s_lload_n (q := 22) 12 3 rfl rfl ?_
    refine n_callS (N := mX12_in) (as := [(1, F 66 17), (1, a), (1, b)]) (st := [(2, 66)]) (q := 25) (d' := 0) 13 rfl uX12_in kX12_197 rfl (pX12_in ?_)
    show PW l G 3 mX12_number bg 25 [(5, (0, w32 (F 66 17))), (0, (2, 66)), (1, (1, a)), (3, (1, b))] [(0, bI (a ≤ F 66 17 ∧ F 66 17 ≤ b)), (2, 66)] (n, K, F, E) Q
    refine s_if_eq (q := 28) (tgt := 32) 14 rfl rfl (fun hc => ?_) (fun hc => ?_)
    · have hc := bI_f hc
      replace h := h.1 (Or.inr hc)
      refine s_iconst (q := 33) 17 rfl ?_
      refine PW.pick [0] rfl ?_
      exact n_callV (N := mX12_must) (as := [(0, 0)]) (st := []) (q := 36) (d' := 2) 18 rfl uX12_must kX12_285 rfl c1 h
    · have hc := bI_t hc
      replace h := h.2 ⟨hb, hc⟩
      refine s_iconst (q := 29) 15 rfl ?_
      refine s_goto (tgt := 33) 16 rfl rfl ?_
      refine PW.pick [0] rfl ?_
      exact n_callV (N := mX12_must) (as := [(0, 1)]) (st := []) (q := 36) (d' := 2) 18 rfl uX12_must kX12_285 rfl c1 h
end B
