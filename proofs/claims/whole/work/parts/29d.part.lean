/-! SUMS in the class: the contracts, and a part -/
theorem phok_num {v nw : Int} (h0 : 0 ≤ v) (h1 : v ≤ 1001) : PhOk (pNum v) nw := fun w x _ e => by
  unfold pNum at e
  injection e with e
  omega
theorem phok_wrd {k nw : Int} (h0 : 0 ≤ k) (h1 : k < nw) : PhOk (pWrd k) nw := fun w x hw e => by
  unfold pWrd at e
  injection e with e
  have := hw k h0 h1
  omega
abbrev nwL (lw : Bool) : Int := if lw = true then 9 else 12
/-- before something is read -/
def PreL (lw : Bool) (T t p : Int) (K : Int → Nat × Nat) (F E : Int → Int → Int) : Prop :=
  (KS K ∧ FS F) ∧ (F 20 2 = if lw = true then 1 else 0) ∧ (F 20 4 = t ∧ 0 ≤ t ∧ t ≤ T ∧ T ≤ 400) ∧ (F 20 3 = p ∧ 0 ≤ p ∧ p ≤ 50) ∧ (E 24 T = 256 ∧ ∀ s, 0 ≤ s → s < T → 0 ≤ E 26 s ∧ E 26 s ≤ 1001) ∧ 0 ≤ F 27 3 ∧ F 27 3 + 2 ≤ 2 * t
/-- what comes of reading in the mode md -/
def OutL (lw : Bool) (T md d t p : Int) (n : Nat) (K : Int → Nat × Nat) (F E : Int → Int → Int) (Q : Option pV → pM → Prop) : Prop :=
  (∀ F' E' t' p' f, FrL F E F' E' → F' 20 4 = t' → t ≤ t' → t' ≤ T → Gr lw (E 24) (E 26) md d t p pZ false t' p' f → Q (some (0, 0)) (n, K, F', E')) ∧
  (∀ F' E' t' p' f, FrL F E F' E' → F' 20 4 = t' → F' 20 3 = p' → t < t' → t' ≤ T → p < p' → p' ≤ 50 → F' 27 3 ≤ F 27 3 + 2 * (t' - t) → SegC (E' 29) (F 27 3) (F' 27 3) f (p' - p) (nwL lw) → PhOk f (nwL lw) → Gr lw (E 24) (E 26) md d t p pZ true t' p' f → Q (some (0, 1)) (n, K, F', E'))
def CC (lw : Bool) (l : Launch) (G : pG) (md dd : Int) (d : Nat) (M : pMeth) : Prop := ∀ (bg : Nat × Nat) (n : Nat) (K : Int → Nat × Nat) (F E : Int → Int → Int) (Q : Option pV → pM → Prop) (T t p : Int), PreL lw T t p K F E → OutL lw T md dd t p n K F E Q → PC l G d M bg [(2, 20), (0, dd)] (n, K, F, E) Q
theorem PreL.lt {lw : Bool} {T t p : Int} {K : Int → Nat × Nat} {F E : Int → Int → Int} (h : PreL lw T t p K F E) (z : E 24 t ≠ 256) : t < T := by
  obtain ⟨_, _, ⟨_, _, b, _⟩, _, ⟨e, _⟩, _⟩ := h
  by_cases q : t = T
  · subst q; exact absurd e z
  · omega
theorem FrL.e {F E F' E' : Int → Int → Int} (h : FrL F E F' E') : E' 24 = E 24 ∧ E' 26 = E 26 := ⟨h.1 24 (by decide), h.1 26 (by decide)⟩
/-- on to the next token -/
theorem PreL.next {lw : Bool} {T t p t' p' : Int} {K : Int → Nat × Nat} {F E F' E' : Int → Int → Int} (h : PreL lw T t p K F E) (w : FrL F E F' E') (e4 : F' 20 4 = t') (e3 : F' 20 3 = p') (h1 : 0 ≤ t' ∧ t' ≤ T) (h2 : 0 ≤ p' ∧ p' ≤ 50) (h3 : F' 27 3 + 2 ≤ 2 * t') : PreL lw T t' p' K F' E' := by
  obtain ⟨⟨a1, a2⟩, a3, ⟨a4, a5, a6, a7⟩, ⟨b1, b2, b3⟩, ⟨c1, c2⟩, c3, c4⟩ := h
  refine ⟨⟨a1, w.2.1⟩, by rw [w.2.2.1 20 2 (by omega) (by omega)]; exact a3, ⟨e4, h1.1, h1.2, a7⟩, ⟨e3, h2.1, h2.2⟩, ?_, by have := w.2.2.2.2; omega, h3⟩
  rw [w.e.1, w.e.2]
  exact ⟨c1, c2⟩
section C
variable {l : Launch} {G : pG} {bg : Nat × Nat} {n : Nat} {K : Int → Nat × Nat} {F E : Int → Int → Int} {Q : Option pV → pM → Prop} {lw : Bool} {T t p : Int}
theorem c_skip {k : Int} (h : PreL lw T t p K F E) (hk : k ≠ 256) (hQ0 : E 24 t ≠ k → Q (some (0, 0)) (n, K, F, E)) (hQ1 : E 24 t = k → Q (some (0, 1)) (n, K, pUp F 20 4 (t + 1), E)) : PC l G 0 mX5_skip bg [(2, 20), (0, k)] (n, K, F, E) Q := by
  obtain ⟨⟨hK, hF⟩, _, ⟨h4, t0, t1, T1⟩, _⟩ := h
  refine vX5_skip_0 20 k ?_
  simp only [hF.f20_0, hF.f21_1, hK.k20, hK.k21, hK.k24, h4]
  refine ⟨trivial, trivial, trivial, by omega, hQ0, fun z => ⟨fun _ => ⟨by omega, fun F1 f1 => ?_⟩, fun y => absurd y hk⟩⟩
  rw [f1]
  exact hQ1 z
theorem c_readPart {dd : Int} {d e : Nat} (d0 : 0 ≤ dd) (d8 : dd ≤ 8) (hd : e + 1 ≤ d) (hB : 12 ≤ d) (ih : dd < 8 → CC lw l G 3 (dd + 1) e mX5_readSum) : CC lw l G 0 dd d mX5_readPart := by
  intro bg n K F E Q T t p h ho
  have h' := h
  obtain ⟨⟨hK, hF⟩, h2, ⟨h4, t0, t1, T1⟩, ⟨h3, p0, p1⟩, ⟨hT, hn⟩, l0, l1⟩ := h'
  have R := gr_rules (lw := lw) (kd := E 24) (nm := E 26)
  have rf := FrL.refl (E := E) hF
  refine vX5_readPart_0 hd hB 20 dd ?_
  simp only [hF.f20_0, hF.f21_1, hK.k20, hK.k21, hK.k24, h3, h4]
  refine ⟨trivial, trivial, trivial, by omega, fun z => ⟨fun y => ⟨by omega, fun F1 f1 => ⟨by omega, ?_⟩⟩, fun y => ?_⟩, fun z => ⟨fun y => ?_, fun y => ?_⟩⟩
  · have tl := h.lt (by omega)
    have w1 : FrL F E F1 E := by rw [f1]; exact rf.at (Or.inr rfl)
    have a4 : F1 20 4 = t + 1 := by rw [f1, pUp_s]
    have a3 : F1 20 3 = p := by rw [f1, pUp_k (by decide)]; exact h3
    have al : F1 27 3 = F 27 3 := by rw [f1, pUp_a (by decide)]
    refine ih y (0, 0) n K F1 E _ T (t + 1) p (h.next w1 a4 a3 (by omega) ⟨p0, p1⟩ (by omega)) ⟨fun F2 E2 t' p' f w2 b4 b1 b2 g => ?_, fun F2 E2 t' p' f w2 b4 b3 b1 b2 b5 b6 b7 sg ph g => ?_⟩
    · exact vX5_readPart_56 hd hB 20 0 ⟨fun _ => ho.1 F2 E2 t' p' pZ (w1.trans w2) b4 (by omega) b2 (R.1.2.1 dd t p t' p' f z y g), fun w => absurd rfl w⟩
    · refine vX5_readPart_56 hd hB 20 1 ⟨fun w => absurd w (by decide), fun _ => ⟨by rw [hK.k20], ?_⟩⟩
      have w12 := w1.trans w2
      have e24 : E2 24 = E 24 := w12.e.1
      have pre2 : PreL lw T t' p' K F2 E2 := h.next w12 b4 b3 (by omega) (by omega) (by omega)
      refine c_skip pre2 (by decide) (fun q => ?_) (fun q => ?_)
      · rw [e24] at q
        exact vX5_readPart_65 hd hB 0 ⟨fun _ => ho.1 F2 E2 t' p' pZ w12 b4 (by omega) b2 (R.1.2.2.1 dd t p t' p' f z y g q), fun w => absurd rfl w⟩
      · have t2 := pre2.lt (by omega)
        rw [e24] at q
        refine vX5_readPart_65 hd hB 1 ⟨fun w => absurd w (by decide), fun _ => ho.2 _ E2 (t' + 1) p' f (w12.at (Or.inr rfl)) pUp_s (by rw [pUp_k (by decide)]; exact b3) (by omega) (by omega) b5 b6 (by rw [pUp_a (by decide)]; omega) ?_ ph (R.1.2.2.2 dd t p t' p' f z y g q)⟩
        rw [pUp_a (by decide), ← al]
        exact sg
  · exact ho.1 F E t p pZ rf h4 (Int.le_refl t) t1 (R.1.1 dd t p z (by omega))
  · exact ho.1 F E t p pZ rf h4 (Int.le_refl t) t1 (R.2.1.1 dd t p z y)
  · have nx : ∀ u, 0 ≤ u → u ≤ T → E 24 u ≠ 256 → u < T := fun u u0 u1 z => by
      by_cases q : u = T
      · rw [q] at z; exact absurd hT z
      · omega
    have sgr : (sg lw (E 24) (E 26) t).1 = false → t ≤ (sg lw (E 24) (E 26) t).2.1 ∧ (sg lw (E 24) (E 26) t).2.1 ≤ T := by
      have q := nx t t0 t1
      unfold sg
      (repeat' split) <;> intro w <;> first | exact absurd (show true = false from w) (by decide) | (dsimp only; omega)
    have sgt : (sg lw (E 24) (E 26) t).1 = true → (t < (sg lw (E 24) (E 26) t).2.1 ∧ (sg lw (E 24) (E 26) t).2.1 ≤ T) ∧ PhOk (sg lw (E 24) (E 26) t).2.2 (nwL lw) := by
      have q := nx t t0 t1
      unfold sg
      by_cases k1 : E 24 t = 257
      · have n1 := hn t t0 (q (by omega))
        have q1 := q (by omega)
        rw [if_pos k1]
        by_cases k2 : E 26 t ≤ 1000
        · rw [if_pos k2]; exact fun _ => ⟨by dsimp only; omega, phok_num n1.1 n1.2⟩
        · rw [if_neg k2]; exact fun w => absurd (show false = true from w) (by decide)
      · rw [if_neg k1]
        cases lw with
        | true =>
          rw [if_pos rfl]
          by_cases k2 : 259 ≤ E 24 t ∧ E 24 t ≤ 267
          · have q1 := q (by omega)
            rw [if_pos k2]; exact fun _ => ⟨by dsimp only; omega, phok_wrd (by omega) (by rw [nwL, if_pos rfl]; omega)⟩
          · rw [if_neg k2]; exact fun w => absurd (show false = true from w) (by decide)
        | false =>
          rw [if_neg (by decide)]
          have n9 : nwL false = 12 := by rw [nwL, if_neg (by decide)]
          rw [n9]
          by_cases k2 : E 24 t = 272
          · have q1 := q (by omega)
            rw [if_pos k2]
            by_cases k3 : E 24 (t + 1) = 257 ∧ E 26 (t + 1) ≤ 2
            · have q2 := nx (t + 1) (by omega) (by omega) (by omega)
              have n1 := hn (t + 1) (by omega) q2
              rw [if_pos k3]; exact fun _ => ⟨by dsimp only; omega, phok_wrd (by omega) (by omega)⟩
            · rw [if_neg k3]; exact fun w => absurd (show false = true from w) (by decide)
          · rw [if_neg k2]
            by_cases k3 : E 24 t = 259
            · have q1 := q (by omega)
              rw [if_pos k3]
              by_cases k4 : E 24 (t + 1) = 257 ∧ E 26 (t + 1) ≤ 3
              · have q2 := nx (t + 1) (by omega) (by omega) (by omega)
                have n1 := hn (t + 1) (by omega) q2
                rw [if_pos k4]; exact fun _ => ⟨by dsimp only; omega, phok_wrd (by omega) (by omega)⟩
              · rw [if_neg k4]; exact fun w => absurd (show false = true from w) (by decide)
            · rw [if_neg k3]
              by_cases k4 : 267 ≤ E 24 t ∧ E 24 t < 272
              · have q1 := q (by omega)
                rw [if_pos k4]; exact fun _ => ⟨by dsimp only; omega, phok_wrd (by omega) (by omega)⟩
              · rw [if_neg k4]; exact fun w => absurd (show false = true from w) (by decide)
    refine c_readSingle (T := T) (lw := lw) (t := t) (p := p) hK hF h2 h4 h3 p0 (by omega) t0 t1 T1 hT hn l0 (by omega) (fun q F' w e4 el => ?_) (fun q F' E' w e4 e3 el sgc => ?_)
    · have es : sg lw (E 24) (E 26) t = (false, (sg lw (E 24) (E 26) t).2.1, (sg lw (E 24) (E 26) t).2.2) := by rw [← q]
      exact vX5_readPart_22 hd hB 0 ⟨fun _ => ho.1 F' E _ p pZ w e4 (sgr q).1 (sgr q).2 (R.2.1.2.1 dd t p _ _ z (by omega) es), fun v => absurd rfl v⟩
    · have es : sg lw (E 24) (E 26) t = (true, (sg lw (E 24) (E 26) t).2.1, (sg lw (E 24) (E 26) t).2.2) := by rw [← q]
      obtain ⟨⟨u1, u2⟩, u3⟩ := sgt q
      refine vX5_readPart_22 hd hB 1 ⟨fun v => absurd v (by decide), fun _ => ho.2 F' E' _ (p + 1) _ w e4 e3 u1 u2 (by omega) (by omega) (by omega) ?_ u3 (R.2.1.2.2 dd t p _ _ z (by omega) es)⟩
      rw [el, show p + 1 - p = 1 by omega]
      exact sgc
end C
