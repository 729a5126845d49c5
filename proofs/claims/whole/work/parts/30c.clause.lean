/-! A CLAUSE in the class -/
section C
variable {l : Launch} {G : pG} {bg : Nat × Nat} {n : Nat} {K : Int → Nat × Nat} {F E F0 E0 : Int → Int → Int} {Q : Option pV → pM → Prop} {lw : Bool} {T t p c k tm i : Int} {fs : Int → tPhi}
theorem c_begin_10 (hK : KS K) (hF : FS F) (h2 : F 27 2 = c) (c0 : 0 ≤ c) (c11 : c ≤ 11) (m : Nat) : ∀ (i : Int) (E : Int → Int → Int), i + m = 6 → 0 ≤ i → (∀ r, r ≠ 28 → E r = E0 r) → (∀ j, j < c * 6 → E 28 j = E0 28 j) → (∀ j, c * 6 ≤ j → j < c * 6 + i → E 28 j = -1) →
    (∀ E', (∀ r, r ≠ 28 → E' r = E0 r) → (∀ j, j < c * 6 → E' 28 j = E0 28 j) → E' 28 (c * 6 + 0) = k → E' 28 (c * 6 + 1) = 1 → (∀ j, c * 6 + 2 ≤ j → j < c * 6 + 6 → E' 28 j = -1) → Q none (n, K, pUp F 27 2 (c + 1), E')) → PW l G 0 mX9_beginClause bg 10 [(0, (2, 27)), (1, (0, k)), (2, (0, c * 6)), (3, (0, i))] [] (n, K, F, E) Q := by
  induction m with
  | zero =>
    intro i E e i0 r1 r2 r3 hQ
    refine vX9_beginClause_10 27 k (c * 6) i ⟨fun _ => ?_, fun z => absurd z (by omega)⟩
    simp only [hF.f27_0, hK.k27, hK.k28, h2]
    refine ⟨trivial, by omega, by decide, trivial, by omega, fun E1 e1 => ⟨by omega, by omega, fun E2 e2 => ⟨by omega, fun F3 f3 => ?_⟩⟩⟩
    have q : E2 28 = rUp (rUp (E 28) (c * 6 + 0) k) (c * 6 + 1) 1 := by rw [e2, pUp_row, pRow1, if_pos rfl, e1, pUp_row, pRow1, if_pos rfl]
    rw [f3]
    refine hQ E2 (fun r hr => ?_) (fun j hj => ?_) ?_ ?_ (fun j j0 j1 => ?_)
    · rw [e2, pUp_an hr, e1, pUp_an hr]; exact r1 r hr
    · rw [q, rUp_n (by omega), rUp_n (by omega)]; exact r2 j hj
    · rw [q, rUp_n (by omega), rUp_s]
    · rw [q, rUp_s]
    · rw [q, rUp_n (by omega), rUp_n (by omega)]; exact r3 j (by omega) (by omega)
  | succ m ih =>
    intro i E e i0 r1 r2 r3 hQ
    refine vX9_beginClause_10 27 k (c * 6) i ⟨fun z => absurd z (by omega), fun _ => ?_⟩
    simp only [hF.f27_0, hK.k27, hK.k28]
    refine ⟨trivial, by omega, by decide, trivial, by omega, fun E4 e4 => ⟨by omega, ?_⟩⟩
    have q : E4 28 = rUp (E 28) (c * 6 + i) (-1) := by rw [e4, pUp_row, pRow1, if_pos rfl]
    refine ih (i + 1) E4 (by omega) (by omega) (fun r hr => by rw [e4, pUp_an hr]; exact r1 r hr) (fun j hj => by rw [q, rUp_n (by omega)]; exact r2 j hj) (fun j j0 j1 => ?_) hQ
    by_cases z : j = c * 6 + i
    · rw [q, z, rUp_s]
    · rw [q, rUp_n z]; exact r3 j j0 (by omega)
/-- behind a clause's sums -/
theorem c_ifs (hw : Wip lw T c k tm (nSm lw k) fs F0 E0 t p K F E)
    (hQ0 : ∀ F' E' t' p1 ts, FrX F0 E0 F' E' → F' 20 4 = t' → t ≤ t' → t' ≤ T → IfG lw (E0 24) (E0 26) t p false t' p1 ts → Q (some (0, 0)) (n, K, F', E'))
    (hQ1 : ∀ F' E' t' p' ts, FrX F0 E0 F' E' → F' 27 2 = c + 1 → (∀ j, j < c * 6 → E' 28 j = E0 28 j) → KlC lw (E' 28) (E' 29) (F' 27 3) c (k, tm, ts, fs) → PreX lw T t' p' K F' E' → t ≤ t' → IfG lw (E0 24) (E0 26) t p true t' p' ts → Q (some (0, 1)) (n, K, F', E')) : PC l G 0 mX5_skip (0, 0) [(2, 20), (0, 282)] (n, K, F, E) (fun r μ => PW l G 81 mX5_readClause bg 120 [(0, (2, 20))] (r.toList ++ []) μ Q) := by
  refine c_wskip (by decide) hw (fun z => ?_) (fun F2 z l2 hw2 => ?_)
  · obtain ⟨h1, ⟨h2, c0, c11⟩, h3, h4, ⟨h5, h6, h7⟩, h8⟩ := hw
    exact vX5_readClause_120 20 0 ⟨fun y => absurd rfl y, fun _ => hQ1 F E t p none h3 h2 h4 ⟨h5, h6, h7, h8⟩ h1 (by omega) (Or.inl ⟨z, rfl, rfl, rfl, rfl⟩)⟩
  · obtain ⟨h1, ⟨h2, c0, c11⟩, h3, h4, ⟨h5, h6, h7⟩, h8⟩ := hw2
    obtain ⟨⟨hK, hF⟩, g2, ⟨g4, t0, t1, T1⟩, ⟨g3, p0, p1⟩, ⟨hT, hn⟩, l0, l1⟩ := id h1
    refine vX5_readClause_120 20 1 ⟨fun _ => ?_, fun y => absurd y (by decide)⟩
    simp only [hF.f20_1, hF.f27_0, hK.k20, hK.k27, hK.k28, h2]
    refine ⟨trivial, trivial, by omega, by omega, by omega, by decide, trivial, by omega, fun E1 e1 => ?_⟩
    rw [show c + 1 - 1 = c by omega] at e1
    have w1 : FrX F2 E F2 E1 := by rw [e1]; exact (FrX.refl hF).row
    have w01 := h3.trans w1
    have r24 : E1 24 = E0 24 := w01.e.1
    have r26 : E1 26 = E0 26 := w01.e.2.1
    have pre1 : PreL lw T (t + 1) p K F2 E1 := (h1.next w1 g4 g3 ⟨t0, t1⟩ ⟨p0, p1⟩ l1).l l2
    have q1 : E1 28 = rUp (E 28) (c * 6 + 2) (F2 27 3) := by rw [e1, pUp_row, pRow1, if_pos rfl]
    have q9 : E1 29 = E 29 := by rw [e1, pUp_an (by decide)]
    refine c_tests 8 0 80 (by decide) (by decide) (by decide) (0, 0) n K F2 E1 _ T (t + 1) p pre1 ⟨fun F3 E3 t' p' f w3 b4 b1 b2 g => ?_, fun F3 E3 t' p' f w3 b4 b3 b1 b2 b5 b6 b7 sg tf g => ?_⟩
    · rw [r24, r26] at g
      exact vX5_readClause_154 20 0 ⟨fun y => absurd rfl y, fun _ => hQ0 F3 E3 t' p' none (w01.trans w3.x) b4 (by omega) b2 (Or.inr ⟨z, Or.inl ⟨rfl, p', f, g⟩⟩)⟩
    · rw [r24, r26] at g
      have hF3 := w3.2.1
      have g5 := w3.2.2.2.2
      refine vX5_readClause_154 20 1 ⟨fun _ => ⟨by rw [hK.k20], by rw [hF3.f20_1, hK.k27], ?_⟩, fun y => absurd y (by decide)⟩
      rw [hF3.f20_1]
      refine c_emit hK hF3 (by omega) (by omega) fun F5 E5 w5 c3 ca cb ck => vX5_readClause_168 _ ?_
      have w35 := w3.x.trans w5.x
      have q5 : E5 28 = rUp (E 28) (c * 6 + 2) (F2 27 3) := by rw [w5.1 28 (by decide), w3.1 28 (by decide), q1]
      have cd : Cd (E5 29) (F5 27 3) (F2 27 3) f (nwL lw) := ⟨F3 27 3, p' - p, ⟨l0, g5, by omega, by omega⟩, by omega, ca, sg.congr fun j j0 j1 => w5.2.2.2.1 j (by omega)⟩
      refine hQ1 F5 E5 t' p' (some f) (w01.trans w35) ?_ (fun j hj => by rw [q5, rUp_n (by omega)]; exact h4 j hj) ⟨?_, ?_, ?_, fun i' a0 a3 => ?_⟩ ?_ (by omega) (Or.inr ⟨z, Or.inr ⟨rfl, f, g, rfl⟩⟩)
      · rw [w5.2.2.1 27 2 (by omega) (by omega), w3.2.2.1 27 2 (by omega) (by omega)]; exact h2
      · rw [q5, rUp_n (by omega)]; exact h5
      · rw [q5, rUp_n (by omega)]; exact h6
      · show E5 28 (c * 6 + 2) ≠ -1 ∧ Cd (E5 29) (F5 27 3) (E5 28 (c * 6 + 2)) f (nwL lw) ∧ Tst f
        rw [q5, rUp_s]
        exact ⟨by omega, cd, tf⟩
      · show (i' < nSm lw k → Cd (E5 29) (F5 27 3) (E5 28 (c * 6 + (3 + i'))) (fs i') (nwL lw) ∧ PhOk (fs i') (nwL lw)) ∧ (nSm lw k ≤ i' → E5 28 (c * 6 + (3 + i')) = -1)
        rw [q5, rUp_n (by omega)]
        refine ⟨fun y => ⟨((h8 i' a0 a3).1 y).1.grow (fun j hj => ?_) (by omega) (by omega), ((h8 i' a0 a3).1 y).2⟩, (h8 i' a0 a3).2⟩
        rw [w35.2.2.2.1 j hj, q9]
      · exact h1.next (w1.trans w35) (by rw [ck 4]; exact b4) (by rw [ck 3]; exact b3) (by omega) (by omega) (by omega)
theorem hdl_t : hdL true = 273 := by decide
theorem hdl_f : hdL false = 275 := by decide
theorem lal_t : laL true = 1 := by decide
theorem lal_f : laL false = 3 := by decide
theorem c_readClause (h : PreX lw T t p K F E) (kr24 : 0 ≤ E 24 t ∧ E 24 t ≤ 300) (h2 : F 27 2 = c) (c0 : 0 ≤ c) (c11 : c ≤ 11)
    (hQ0 : ∀ F' E' t' p1 x, FrX F E F' E' → F' 20 4 = t' → t ≤ t' → t' ≤ T → ClG lw (E 24) (E 26) t p false t' p1 x → Q (some (0, 0)) (n, K, F', E'))
    (hQ1 : ∀ F' E' t' p' x, FrX F E F' E' → F' 27 2 = c + 1 → (∀ j, j < c * 6 → E' 28 j = E 28 j) → KlC lw (E' 28) (E' 29) (F' 27 3) c x → PreX lw T t' p' K F' E' → t < t' → ClG lw (E 24) (E 26) t p true t' p' x → Q (some (0, 1)) (n, K, F', E')) : PC l G 81 mX5_readClause bg [(2, 20)] (n, K, F, E) Q := by
  obtain ⟨⟨hK, hF⟩, g2, ⟨g4, t0, t1, T1⟩, ⟨g3, p0, p1⟩, ⟨hT, hn⟩, l0, l1⟩ := id h
  obtain ⟨fs, _⟩ : ∃ fs : Int → tPhi, fs = fun _ => pZ := ⟨_, rfl⟩
  have rf := FrX.refl (E := E) hF
  have no : ¬ (0 ≤ E 24 t - hdL lw ∧ E 24 t - hdL lw ≤ laL lw) → Q (some (0, 0)) (n, K, F, E) := fun z => hQ0 F E t p (0, 0, none, fs) rf g4 (by omega) t1 (Or.inl ⟨z, rfl, rfl⟩)
  have go : ∀ k, k = E 24 t - hdL lw → 0 ≤ k → k ≤ laL lw → PC l G 0 mX9_beginClause (0, 0) [(2, 27), (0, k)] (n, K, F, E) (fun r μ => PW l G 81 mX5_readClause bg 70 [(0, (2, 20)), (3, (0, k))] (r.toList ++ []) μ Q) := by
    intro k ek k0 k1
    have kr : 0 ≤ E 24 t - hdL lw ∧ E 24 t - hdL lw ≤ laL lw := by omega
    have tl : t < T := h.lt (by
      cases lw with
      | true => rw [hdl_t] at ek; omega
      | false => rw [hdl_f] at ek; omega)
    refine vX9_beginClause_0 27 k ?_
    simp only [hK.k27, h2]
    refine ⟨trivial, by omega, c_begin_10 hK hF h2 c0 c11 6 0 E (by decide) (by decide) (fun _ _ => rfl) (fun _ _ => rfl) (fun j j0 j1 => absurd j0 (by omega)) fun E1 r1 r2 r3 r4 r5 => ?_⟩
    have hF1 : FS (pUp F 27 2 (c + 1)) := hF.up (by decide)
    have w1 : FrX F E (pUp F 27 2 (c + 1)) E1 := ⟨fun r a _ => r1 r a, hF1, fun a j q1 q2 => by unfold pUp; rw [if_neg (by omega)], fun j _ => by rw [r1 29 (by decide)], by rw [pUp_k (by decide)]; exact Int.le_refl _⟩
    have m4 : pUp F 27 2 (c + 1) 20 4 = t := by rw [pUp_a (by decide)]; exact g4
    have m3 : pUp F 27 2 (c + 1) 20 3 = p := by rw [pUp_a (by decide)]; exact g3
    have m2 : pUp F 27 2 (c + 1) 20 2 = if lw = true then 1 else 0 := by rw [pUp_a (by decide)]; exact g2
    refine vX5_readClause_70 20 k ?_
    simp only [hK.k20, m4, m2]
    refine ⟨trivial, by omega, fun F1 f1 => ?_⟩
    have a3 : F1 27 3 = F 27 3 := by rw [f1, pUp_a (by decide), pUp_k (by decide)]
    have w2 : FrX F E F1 E1 := by rw [f1]; exact w1.at (Or.inr rfl)
    have wp : ∀ gs, Wip lw T c k 1 0 gs F E (t + 1) p K F1 E1 := fun gs => ⟨h.next w2 (by rw [f1, pUp_s]) (by rw [f1, pUp_k (by decide)]; exact m3) (by omega) ⟨p0, p1⟩ (by omega), ⟨by rw [f1, pUp_a (by decide), pUp_s], c0, c11⟩, w2, r2, ⟨r3, r4, r5 _ (by omega) (by omega)⟩, fun i' b0 b3 => ⟨fun y => absurd y (by omega), fun _ => r5 _ (by omega) (by omega)⟩⟩
    have al : F1 27 3 + 2 ≤ 2 * (t + 1) := by omega
    cases lw with
    | false =>
      rw [if_neg (by decide)]
      refine ⟨fun _ => ?_, fun y => absurd rfl y⟩
      have k3 : k ≤ 3 := by rw [lal_f] at k1; exact k1
      refine c_readOrder (by omega) (wp fs) al (fun F' E' t' w b4 b1 b2 g => ?_) (fun F' E' t' p1 fs' tm t1 b1 g gt hw => ?_)
      · refine vX5_readClause_108 20 0 ⟨fun y => absurd rfl y, fun _ => ?_⟩
        rcases g with ⟨p1, fs', g⟩ | ⟨t1, p1, fs', n', g, g'⟩
        · exact hQ0 F' E' t' p (k, 0, none, fs) w b4 (by omega) b2 (Or.inr ⟨kr, ek, Or.inl ⟨rfl, p1, fs', by rw [← ek]; exact g⟩⟩)
        · exact hQ0 F' E' t' p (k, 0, none, fs') w b4 (by omega) b2 (Or.inr ⟨kr, ek, Or.inr ⟨t1, p1, by rw [← ek]; exact g, Or.inl ⟨rfl, n', g'⟩⟩⟩)
      · refine vX5_readClause_108 20 1 ⟨fun _ => ⟨by rw [hK.k20], c_ifs hw (fun F5 E5 t5 p5 ts w b4 b1 b2 g5 => ?_) (fun F5 E5 t5 p5 ts w e2 e28 kl px b1 g5 => ?_)⟩, fun y => absurd y (by decide)⟩
        · exact hQ0 F5 E5 t5 p5 (k, tm, ts, fs') w b4 (by omega) b2 (Or.inr ⟨kr, ek, Or.inr ⟨t1, p1, by rw [← ek]; exact g, Or.inr ⟨t', gt, g5⟩⟩⟩)
        · exact hQ1 F5 E5 t5 p5 (k, tm, ts, fs') w e2 e28 kl px (by omega) (Or.inr ⟨kr, ek, Or.inr ⟨t1, p1, by rw [← ek]; exact g, Or.inr ⟨t', gt, g5⟩⟩⟩)
    | true =>
      rw [if_pos rfl]
      refine ⟨fun y => absurd y (by decide), fun _ => ⟨fun y => ?_, fun y => ?_⟩⟩
      · have mv : mvL true (E 24 t - hdL true) = [] := by rw [← ek, y]; decide
        have n0 : nSm true k = 0 := by rw [y]; decide
        have hw := wp fs
        rw [← n0] at hw
        refine c_ifs hw (fun F5 E5 t5 p5 ts w b4 b1 b2 g5 => ?_) (fun F5 E5 t5 p5 ts w e2 e28 kl px b1 g5 => ?_)
        · exact hQ0 F5 E5 t5 p5 (k, 1, ts, fs) w b4 (by omega) b2 (Or.inr ⟨kr, ek, Or.inr ⟨t + 1, p, by rw [mv]; exact mg_n, Or.inr ⟨t + 1, Or.inl ⟨Or.inl rfl, rfl, rfl, rfl⟩, g5⟩⟩⟩)
        · exact hQ1 F5 E5 t5 p5 (k, 1, ts, fs) w e2 e28 kl px (by omega) (Or.inr ⟨kr, ek, Or.inr ⟨t + 1, p, by rw [mv]; exact mg_n, Or.inr ⟨t + 1, Or.inl ⟨Or.inl rfl, rfl, rfl, rfl⟩, g5⟩⟩⟩)
      · have y0 : k = 0 := by rw [lal_t] at k1; omega
        have mv : mvL true (E 24 t - hdL true) = [(0, 0)] := by rw [← ek, y0]; decide
        have n0 : nSm true k = 0 + 1 := by rw [y0]; decide
        refine c_whole (by decide) (by decide) (wp fs) al (fun F' E' t' p1 f w b4 b1 b2 g => ?_) (fun F' E' t' p1 f g tt hw1 => ?_)
        · exact vX5_readClause_97 20 0 ⟨fun _ => hQ0 F' E' t' p (k, 0, none, fs) w b4 (by omega) b2 (Or.inr ⟨kr, ek, Or.inl ⟨rfl, p1, fs, by rw [mv]; exact mg_s0 g⟩⟩), fun y => absurd rfl y⟩
        · have v1 := hw1 (sF f pZ pZ) rfl (fun j _ j0 => absurd j0 (by omega))
          rw [← n0] at v1
          refine vX5_readClause_97 20 1 ⟨fun y => absurd y (by decide), fun _ => ⟨by rw [hK.k20], c_ifs v1 (fun F5 E5 t5 p5 ts w b4 b1 b2 g5 => ?_) (fun F5 E5 t5 p5 ts w e2 e28 kl px b1 g5 => ?_)⟩⟩
          · exact hQ0 F5 E5 t5 p5 (k, 1, ts, sF f pZ pZ) w b4 (by omega) b2 (Or.inr ⟨kr, ek, Or.inr ⟨t', p1, by rw [mv]; exact mg_s1 g mg_n, Or.inr ⟨t', Or.inl ⟨Or.inl rfl, rfl, rfl, rfl⟩, g5⟩⟩⟩)
          · exact hQ1 F5 E5 t5 p5 (k, 1, ts, sF f pZ pZ) w e2 e28 kl px (by omega) (Or.inr ⟨kr, ek, Or.inr ⟨t', p1, by rw [mv]; exact mg_s1 g mg_n, Or.inr ⟨t', Or.inl ⟨Or.inl rfl, rfl, rfl, rfl⟩, g5⟩⟩⟩)
  refine vX5_readClause_0 20 ?_
  simp only [hF.f20_0, hF.f21_1, hF.f20_1, hK.k20, hK.k21, hK.k24, hK.k27, g4, g2]
  cases lw with
  | false =>
    rw [if_neg (by decide)]
    rw [hdl_f, lal_f] at no go
    refine ⟨trivial, fun _ => ⟨fun _ => ⟨trivial, trivial, by omega, by omega, fun z => no (by omega), fun z => ⟨fun y => ⟨trivial, go _ rfl (by omega) (by omega)⟩, fun y => no (by omega)⟩⟩, fun y => absurd rfl y⟩, fun y => absurd rfl y⟩
  | true =>
    rw [if_pos rfl]
    rw [hdl_t, lal_t] at no go
    refine ⟨trivial, fun y => absurd y (by decide), fun _ => ⟨fun y => absurd y (by decide), fun _ => ⟨trivial, trivial, by omega, by omega, fun z => no (by omega), fun z => ⟨fun y => ⟨trivial, go _ rfl (by omega) (by omega)⟩, fun y => no (by omega)⟩⟩⟩⟩
end C
