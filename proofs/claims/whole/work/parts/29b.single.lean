/-! A single part in the class -/
section C
variable {l : Launch} {G : pG} {bg : Nat × Nat} {n : Nat} {K : Int → Nat × Nat} {F E : Int → Int → Int} {Q : Option pV → pM → Prop} {t T p : Int} {lw : Bool}
theorem c_numberTo {m : Int} (hK : KS K) (hF : FS F) (h4 : F 20 4 = t) (t0 : 0 ≤ t) (t1 : t ≤ 400) (hQ : Q (some (0, if E 24 t = 257 ∧ E 26 t ≤ m then E 26 t else -1)) (n, K, F, E)) : PC l G 0 mX5_numberTo bg [(2, 20), (0, m)] (n, K, F, E) Q := by
  refine vX5_numberTo_0 20 m ?_
  simp only [hF.f20_0, hF.f21_1, hF.f21_3, hK.k20, hK.k21, hK.k24, hK.k26, h4]
  refine ⟨trivial, trivial, trivial, by omega, fun z => ?_, fun z => ⟨trivial, by omega, fun y => ?_, fun y => ?_⟩⟩
  · rw [if_neg (fun q => z q.1)] at hQ; exact hQ
  · rw [if_neg (by omega)] at hQ; exact hQ
  · rw [if_pos ⟨z, by omega⟩] at hQ; exact hQ
theorem c_readSingle (hK : KS K) (hF : FS F) (h2 : F 20 2 = if lw = true then 1 else 0) (h4 : F 20 4 = t) (h3 : F 20 3 = p) (p0 : 0 ≤ p) (p1 : p ≤ 1000) (t0 : 0 ≤ t) (tT : t ≤ T) (T1 : T ≤ 400) (hT : E 24 T = 256) (hn : ∀ s, 0 ≤ s → s < T → 0 ≤ E 26 s ∧ E 26 s ≤ 1001) (l0 : 0 ≤ F 27 3) (l1 : F 27 3 + 2 ≤ 800)
    (hQ0 : (sg lw (E 24) (E 26) t).1 = false → ∀ F', FrL F E F' E → F' 20 4 = (sg lw (E 24) (E 26) t).2.1 → F' 27 3 = F 27 3 → Q (some (0, 0)) (n, K, F', E))
    (hQ1 : (sg lw (E 24) (E 26) t).1 = true → ∀ F' E', FrL F E F' E' → F' 20 4 = (sg lw (E 24) (E 26) t).2.1 → F' 20 3 = p + 1 → F' 27 3 = F 27 3 + 2 → SegC (E' 29) (F 27 3) (F 27 3 + 2) (sg lw (E 24) (E 26) t).2.2 1 (if lw = true then 9 else 12) → Q (some (0, 1)) (n, K, F', E')) :
    PC l G 1 mX5_readSingle bg [(2, 20)] (n, K, F, E) Q := by
  -- behind the token: the step
  have step : ∀ (o v t' : Int) (f : tPhi), sg lw (E 24) (E 26) t = (true, t', f) → ((o = 1 ∧ f = pNum v) ∨ (o = 2 ∧ f = pWrd v ∧ 0 ≤ v ∧ v < (if lw = true then 9 else 12))) → ∀ F', FrL F E F' E → F' 27 3 = F 27 3 → F' 20 4 = t' → F' 20 3 = p + 1 → PC l G 0 mX9_emit (0, 0) [(2, 27), (0, o), (0, v)] (n, K, F', E) (fun r μ => PW l G 1 mX5_readSingle bg 205 [] (r.toList ++ []) μ Q) := by
    intro o v t' f es ho F' w w3 w4 wp
    refine c_emit hK w.2.1 (by omega) (by omega) fun F2 E2 q2 e3 ea eb ek => vX5_readSingle_205 _ ?_
    rw [es] at hQ1
    rw [w3] at e3 ea eb
    refine hQ1 rfl F2 E2 (w.trans q2) (by rw [ek 4]; exact w4) (by rw [ek 3]; exact wp) e3 ?_
    rcases ho with ⟨e1, e2⟩ | ⟨e1, e2, v0, v1⟩
    · subst e1 e2
      exact segC_num l0 ea eb
    · subst e1 e2
      exact segC_word l0 ea eb v0 v1
  refine vX5_readSingle_0 20 ?_
  simp only [hF.f20_0, hF.f20_1, hF.f21_1, hK.k20, hK.k21, hK.k24, hK.k27, h3, h4]
  refine ⟨trivial, by omega, fun F1 f1 => ?_⟩
  have w1 : FrL F E F1 E := by rw [f1]; exact (FrL.refl hF).at (Or.inl rfl)
  have a3 : F1 20 3 = p + 1 := by rw [f1, pUp_s]
  have a4 : F1 20 4 = t := by rw [f1, pUp_k (by decide)]; exact h4
  have al : F1 27 3 = F 27 3 := by rw [f1, pUp_a (by decide)]
  have no : sg lw (E 24) (E 26) t = (false, t, pZ) → Q (some (0, 0)) (n, K, F1, E) := fun es => by
    rw [es] at hQ0
    exact hQ0 rfl F1 w1 a4 al
  have nx : ∀ F5, F5 = pUp F1 20 4 (t + 1) → FrL F E F5 E ∧ F5 27 3 = F 27 3 ∧ F5 20 4 = t + 1 ∧ F5 20 3 = p + 1 := fun F5 f5 => by
    rw [f5]
    exact ⟨w1.at (Or.inr rfl), by rw [pUp_a (by decide)]; exact al, pUp_s, by rw [pUp_k (by decide)]; exact a3⟩
  have lt : E 24 t ≠ 256 → t < T := fun z => by
    by_cases e : t = T
    · subst e; exact absurd hT z
    · omega
  refine ⟨trivial, trivial, by omega, fun z => ⟨fun zl => ?_, fun zl => ?_⟩, fun z => ?_⟩
  · -- orders
    have hl : lw = false := by
      cases lw with
      | false => rfl
      | true => rw [if_pos rfl] at h2; omega
    subst hl
    have two : ∀ (m add : Int), ((E 24 t = 272 ∧ m = 2 ∧ add = 5) ∨ (E 24 t = 259 ∧ m = 3 ∧ add = 8)) → ∀ F2, F2 = pUp F1 20 4 (t + 1) → PC l G 0 mX5_numberTo (0, 0) [(2, 20), (0, m)] (n, K, F2, E) (fun r μ => PW l G 1 mX5_readSingle bg 119 [(0, (2, 20)), (1, (0, E 24 t))] (r.toList ++ []) μ Q) := by
      intro m add hm F2 f2
      obtain ⟨u1, u2, u3, u4⟩ := nx F2 f2
      have tl := lt (by omega)
      have es : sg false (E 24) (E 26) t = if E 24 (t + 1) = 257 ∧ E 26 (t + 1) ≤ m then (true, t + 2, pWrd (E 26 (t + 1) + add)) else (false, t + 1, pZ) := by
        unfold sg
        rw [if_neg (by omega), if_neg (by decide)]
        rcases hm with ⟨q1, q2, q3⟩ | ⟨q1, q2, q3⟩
        · subst q2 q3; rw [if_pos q1]
        · subst q2 q3; rw [if_neg (by omega), if_pos q1]
      refine c_numberTo hK u1.2.1 u3 (by omega) (by omega) ?_
      by_cases y : E 24 (t + 1) = 257 ∧ E 26 (t + 1) ≤ m
      · rw [if_pos y]
        rw [if_pos y] at es
        have t2 : t + 1 < T := by
          by_cases e : t + 1 = T
          · have q := y.1; rw [e, hT] at q; omega
          · omega
        have nn := hn (t + 1) (by omega) t2
        refine vX5_readSingle_119 20 (E 24 t) _ ?_
        simp only [u1.2.1.f20_1, hK.k20, hK.k27, u3]
        have go : ∀ F3, F3 = pUp F2 20 4 (t + 1 + 1) → PC l G 0 mX9_emit (0, 0) [(2, 27), (0, 2), (0, E 26 (t + 1) + add)] (n, K, F3, E) (fun r μ => PW l G 1 mX5_readSingle bg 205 [] (r.toList ++ []) μ Q) := fun F3 f3 => by
          refine step 2 (E 26 (t + 1) + add) (t + 2) _ es (Or.inr ⟨rfl, rfl, by omega, by rw [if_neg (by decide)]; omega⟩) F3 (by rw [f3]; exact u1.at (Or.inr rfl)) (by rw [f3, pUp_a (by decide)]; exact u2) (by rw [f3, pUp_s]; omega) (by rw [f3, pUp_k (by decide)]; exact u4)
        refine ⟨fun _ => ⟨fun x => ⟨by omega, fun _ => ⟨trivial, by omega, fun F3 f3 => ⟨fun _ => ⟨trivial, ?_⟩, fun w => absurd w z⟩⟩, fun w => absurd w (by omega)⟩, fun x => ⟨by omega, fun _ => ⟨trivial, by omega, fun F3 f3 => ⟨fun _ => ⟨trivial, ?_⟩, fun w => absurd w z⟩⟩, fun w => absurd w (by omega)⟩⟩, fun w => absurd w (by omega)⟩
        · have ea : add = 8 := by omega
          have q := go F3 f3
          rw [ea] at q
          exact q
        · have ea : add = 5 := by omega
          have q := go F3 f3
          rw [ea] at q
          exact q
      · rw [if_neg y]
        rw [if_neg y] at es
        rw [es] at hQ0
        exact vX5_readSingle_119 20 (E 24 t) (-1) ⟨fun w => absurd rfl w, fun _ => hQ0 rfl F2 u1 u3 u2⟩
    refine ⟨fun y => ⟨by omega, fun F2 f2 => ⟨fun x => absurd y x, fun _ => two 2 5 (Or.inl ⟨y, rfl, rfl⟩) F2 f2⟩⟩, fun y => ⟨fun x => ⟨fun u => no ?_, fun u => ⟨fun v => no ?_, fun v => ⟨by omega, fun _ => ⟨by omega, fun F3 f3 => ⟨fun _ => ⟨trivial, ?_⟩, fun w => absurd w z⟩⟩, fun w => absurd w (by omega)⟩⟩⟩, fun x => ⟨by omega, fun F2 f2 => ⟨fun _ => two 3 8 (Or.inr ⟨x, rfl, rfl⟩) F2 f2, fun w => absurd w y⟩⟩⟩⟩
    · unfold sg
      rw [if_neg z, if_neg (by decide), if_neg y, if_neg x, if_neg (by omega)]
    · unfold sg
      rw [if_neg z, if_neg (by decide), if_neg y, if_neg x, if_neg (by omega)]
    · obtain ⟨u1, u2, u3, u4⟩ := nx F3 f3
      have es : sg false (E 24) (E 26) t = (true, t + 1, pWrd (E 24 t - 267)) := by
        unfold sg
        rw [if_neg z, if_neg (by decide), if_neg y, if_neg x, if_pos (by omega)]
      exact step 2 (E 24 t - 267) (t + 1) _ es (Or.inr ⟨rfl, rfl, by omega, by rw [if_neg (by decide)]; omega⟩) F3 u1 u2 u3 u4
  · -- laws
    have hl : lw = true := by
      cases lw with
      | true => rfl
      | false => rw [if_neg (by decide)] at h2; exact absurd h2 zl
    subst hl
    refine ⟨fun y => no ?_, fun y => ⟨fun x => no ?_, fun x => ⟨by omega, fun _ => ⟨by omega, fun F5 f5 => ⟨fun _ => ⟨trivial, ?_⟩, fun w => absurd w z⟩⟩, fun w => absurd w (by omega)⟩⟩⟩
    · unfold sg
      rw [if_neg z, if_pos rfl, if_neg (by omega)]
    · unfold sg
      rw [if_neg z, if_pos rfl, if_neg (by omega)]
    · obtain ⟨u1, u2, u3, u4⟩ := nx F5 f5
      have es : sg true (E 24) (E 26) t = (true, t + 1, pWrd (E 24 t - 259)) := by
        unfold sg
        rw [if_neg z, if_pos rfl, if_pos (by omega)]
      exact step 2 (E 24 t - 259) (t + 1) _ es (Or.inr ⟨rfl, rfl, by omega, by rw [if_pos rfl]; omega⟩) F5 u1 u2 u3 u4
  · -- digits
    refine c_numberTo hK w1.2.1 a4 t0 (by omega) ?_
    have nn := hn t t0 (lt (by omega))
    by_cases y : E 26 t ≤ 1000
    · rw [if_pos ⟨z, y⟩]
      have es : sg lw (E 24) (E 26) t = (true, t + 1, pNum (E 26 t)) := by unfold sg; rw [if_pos z, if_pos y]
      refine vX5_readSingle_39 20 (E 24 t) _ ?_
      simp only [w1.2.1.f20_1, hK.k20, hK.k27, a4]
      refine ⟨fun _ => ⟨trivial, by omega, fun F5 f5 => ⟨fun w => absurd z w, fun _ => ⟨trivial, ?_⟩⟩⟩, fun w => absurd w (by omega)⟩
      obtain ⟨u1, u2, u3, u4⟩ := nx F5 f5
      exact step 1 (E 26 t) (t + 1) _ es (Or.inl ⟨rfl, rfl⟩) F5 u1 u2 u3 u4
    · rw [if_neg (fun q => y q.2)]
      refine vX5_readSingle_39 20 (E 24 t) (-1) ⟨fun w => absurd rfl w, fun _ => no ?_⟩
      unfold sg
      rw [if_pos z, if_neg y]
end C
