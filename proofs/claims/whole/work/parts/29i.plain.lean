/-! PLAIN in the class -/
theorem c_readPlain {l : Launch} {G : pG} {lw : Bool} {dd : Int} {d e : Nat} (d0 : 0 ≤ dd) (d8 : dd ≤ 8) (hd : e + 1 ≤ d) (hB : 12 ≤ d) (hc : CT lw l G 5 dd e mX5_readCompared) (ht : dd < 8 → CT lw l G 9 (dd + 1) e mX5_readTest) : CT lw l G 6 dd d mX5_readPlain := by
  intro bg n K F E Q T t p h ho
  have h' := h
  obtain ⟨⟨hK, hF⟩, h2, ⟨h4, t0, t1, T1⟩, ⟨h3, p0, p1⟩, ⟨hT, hn⟩, l0, l1⟩ := h'
  have RB := (gr_rules (lw := lw) (kd := E 24) (nm := E 26)).2.2.2.2.2.1
  have RN := (gr_rules (lw := lw) (kd := E 24) (nm := E 26)).2.2.2.2.2.2.1
  have lp : ∀ (w : Nat) (u x : Int) (F1 : Int → Int → Int), T - u ≤ w → (x = 0 ∨ (x = 1 ∧ t < u)) → FrL F E F1 E → F1 20 4 = u → F1 20 3 = p → t ≤ u → u ≤ T → F1 27 3 = F 27 3 → (∀ t2 p2 g, Gr lw (E 24) (E 26) 6 dd u p pZ false t2 p2 g → ∃ g', Gr lw (E 24) (E 26) 6 dd t p pZ false t2 p2 g') → (∀ t2 p2 g, Gr lw (E 24) (E 26) 6 dd u p pZ true t2 p2 g → Gr lw (E 24) (E 26) 6 dd t p pZ true t2 p2 (if x = 0 then g else pNt g)) → PW l G d mX5_readPlain bg 4 [(0, (2, 20)), (1, (0, dd)), (2, (0, x)), (3, (0, u - t))] [] (n, K, F1, E) Q := by
    have body : ∀ (u x : Int) (F1 : Int → Int → Int), (x = 0 ∨ (x = 1 ∧ t < u)) → FrL F E F1 E → F1 20 4 = u → F1 20 3 = p → t ≤ u → u ≤ T → F1 27 3 = F 27 3 → (∀ t2 p2 g, Gr lw (E 24) (E 26) 6 dd u p pZ false t2 p2 g → ∃ g', Gr lw (E 24) (E 26) 6 dd t p pZ false t2 p2 g') → (∀ t2 p2 g, Gr lw (E 24) (E 26) 6 dd u p pZ true t2 p2 g → Gr lw (E 24) (E 26) 6 dd t p pZ true t2 p2 (if x = 0 then g else pNt g)) → E 24 u ≠ 285 → PreL lw T u p K F1 E → PW l G d mX5_readPlain bg 18 [(0, (2, 20)), (1, (0, dd)), (2, (0, x)), (3, (0, u - t))] [(0, 0)] (n, K, F1, E) Q := by
      intro u x F1 hx w1 e4 e3 tu uT el cf ck nk pre1
      have hF1 := w1.2.1
      -- the end, with what it comes to
      have fin : ∀ F3 E3 t' p' g, FrL F E F3 E3 → F3 20 4 = t' → F3 20 3 = p' → u < t' → t' ≤ T → p < p' → p' ≤ 50 → F3 27 3 ≤ F 27 3 + 2 * (t' - u) → SegC (E3 29) (F 27 3) (F3 27 3) g (p' - p) (nwL lw) → Tst g → Gr lw (E 24) (E 26) 6 dd u p pZ true t' p' g → (x = 0 → Q (some (0, 1)) (n, K, F3, E3)) ∧ (¬ x = 0 → (K 20).1 = 5 ∧ (K (F3 20 1)).1 = 9 ∧ PC l G 0 mX9_emit (0, 0) [(2, F3 20 1), (0, 3), (0, 0)] (n, K, F3, E3) (fun r μ => PW l G d mX5_readPlain bg 108 [] (r.toList ++ []) μ Q)) := by
        intro F3 E3 t' p' g w3 b4 b3 b1 b2 b5 b6 b7 sg ts gr
        have g3 := w3.2.2.2.2
        have hF3 := w3.2.1
        refine ⟨fun x0 => ?_, fun x0 => ⟨by rw [hK.k20], by rw [hF3.f20_1, hK.k27], ?_⟩⟩
        · have r := ck t' p' g gr
          rw [if_pos x0] at r
          exact ho.2 F3 E3 t' p' g w3 b4 b3 (by omega) b2 b5 b6 (by omega) sg ts r
        · have r := ck t' p' g gr
          rw [if_neg x0] at r
          rw [hF3.f20_1]
          refine c_emit hK hF3 (by omega) (by omega) fun F5 E5 w5 c3 ca cb cq => vX5_readPlain_108 hd hB _ ?_
          have s1 : SegC (E5 29) (F 27 3) (F3 27 3) g (p' - p) (nwL lw) := sg.congr fun j j0 j1 => w5.2.2.2.1 j j1
          have s2 := segC_nt l0 g3 (by omega) s1 ts ca
          rw [← c3] at s2
          exact ho.2 F5 E5 t' p' (pNt g) (w3.trans w5) (by rw [cq 4]; exact b4) (by rw [cq 3]; exact b3) (by omega) b2 b5 b6 (by omega) s2 ts.nt r
      refine vX5_readPlain_18 hd hB 20 dd x (u - t) 0 ⟨fun _ => ?_, fun a => absurd rfl a⟩
      simp only [hF1.f20_0, hF1.f21_1, hK.k20, hK.k21, hK.k24, e4]
      refine ⟨trivial, trivial, trivial, by omega, fun z => ?_, fun z => ⟨fun y => ⟨by omega, fun F2 f2 => ⟨by omega, ?_⟩⟩, fun y => ?_⟩⟩
      · refine hc (0, 0) n K F1 E _ T u p pre1 ⟨fun F3 E3 t' p' g w3 b4 b1 b2 gr => ?_, fun F3 E3 t' p' g w3 b4 b3 b1 b2 b5 b6 b7 sg ts gr => ?_⟩
        · obtain ⟨g', r⟩ := cf t' p' g (RN.2.2 dd u p false t' p' g nk z gr)
          exact vX5_readPlain_90 hd hB 20 x 0 ⟨fun a => absurd rfl a, fun _ => ho.1 F3 E3 t' p' g' (w1.trans w3) b4 (by omega) b2 r⟩
        · rw [el] at b7 sg
          exact vX5_readPlain_90 hd hB 20 x 1 ⟨fun _ => fin F3 E3 t' p' g (w1.trans w3) b4 b3 b1 b2 b5 b6 b7 sg ts (RN.2.2 dd u p true t' p' g nk z gr), fun a => absurd a (by decide)⟩
      · have ul := pre1.lt (by omega)
        have w2 : FrL F E F2 E := by rw [f2]; exact w1.at (Or.inr rfl)
        have a4 : F2 20 4 = u + 1 := by rw [f2, pUp_s]
        have a3 : F2 20 3 = p := by rw [f2, pUp_k (by decide)]; exact e3
        have al : F2 27 3 = F 27 3 := by rw [f2, pUp_a (by decide)]; exact el
        refine ht y (0, 0) n K F2 E _ T (u + 1) p (h.next w2 a4 a3 (by omega) (by omega) (by omega)) ⟨fun F3 E3 t' p' g w3 b4 b1 b2 gr => ?_, fun F3 E3 t' p' g w3 b4 b3 b1 b2 b5 b6 b7 sg ts gr => ?_⟩
        · obtain ⟨g', r⟩ := cf t' p' pZ (RB.2.1 dd u p t' p' g z y gr)
          exact vX5_readPlain_71 hd hB 20 x 0 ⟨fun _ => ho.1 F3 E3 t' p' g' (w2.trans w3) b4 (by omega) b2 r, fun a => absurd rfl a⟩
        · rw [al] at b7 sg
          have w23 := w2.trans w3
          have k24 : E3 24 = E 24 := w23.e.1
          have pre3 : PreL lw T t' p' K F3 E3 := h.next w23 b4 b3 (by omega) (by omega) (by omega)
          refine vX5_readPlain_71 hd hB 20 x 1 ⟨fun a => absurd a (by decide), fun _ => ⟨by rw [hK.k20], c_skip pre3 (by decide) (fun q => ?_) (fun q => ?_)⟩⟩
          · rw [k24] at q
            obtain ⟨g', r⟩ := cf t' p' pZ (RB.2.2.1 dd u p t' p' g z y gr q)
            exact vX5_readPlain_80 hd hB 20 x 0 ⟨fun a => absurd rfl a, fun _ => ho.1 F3 E3 t' p' g' w23 b4 (by omega) b2 r⟩
          · have t3 := pre3.lt (by omega)
            rw [k24] at q
            refine vX5_readPlain_80 hd hB 20 x 1 ⟨fun _ => fin _ E3 (t' + 1) p' g (w23.at (Or.inr rfl)) pUp_s (by rw [pUp_k (by decide)]; exact b3) (by omega) (by omega) b5 b6 (by rw [pUp_a (by decide)]; omega) (by rw [pUp_a (by decide)]; exact sg) ts (RB.2.2.2 dd u p t' p' g z y gr q), fun a => absurd a (by decide)⟩
      · obtain ⟨g', r⟩ := cf u p pZ (RB.1 dd u p z (by omega))
        exact ho.1 F1 E u p g' w1 e4 tu uT r
    intro w
    induction w with
    | zero =>
      intro u x F1 hw hx w1 e4 e3 tu uT el cf ck
      obtain rfl : u = T := by omega
      have pre1 : PreL lw u u p K F1 E := h.next w1 e4 e3 (by omega) (by omega) (by omega)
      refine vX5_readPlain_4 hd hB 20 dd x (u - t) ⟨fun z => absurd z (by omega), fun _ => ⟨by rw [hK.k20], c_skip pre1 (by decide) (fun z => body u x F1 hx w1 e4 e3 tu uT el cf ck z pre1) (fun z => ?_)⟩⟩
      rw [hT] at z
      exact absurd z (by decide)
    | succ w ih =>
      intro u x F1 hw hx w1 e4 e3 tu uT el cf ck
      have pre1 : PreL lw T u p K F1 E := h.next w1 e4 e3 (by omega) (by omega) (by omega)
      refine vX5_readPlain_4 hd hB 20 dd x (u - t) ⟨fun z => absurd z (by omega), fun _ => ⟨by rw [hK.k20], c_skip pre1 (by decide) (fun z => body u x F1 hx w1 e4 e3 tu uT el cf ck z pre1) (fun z => ?_)⟩⟩
      have ul := pre1.lt (by omega)
      have on : ∀ x', (x' = 0 ∨ x' = 1) → x' ≠ x → PW l G d mX5_readPlain bg 4 [(0, (2, 20)), (1, (0, dd)), (2, (0, x')), (3, (0, u - t + 1))] [] (n, K, pUp F1 20 4 (u + 1), E) Q := fun x' h01 hne => by
        have q := ih (u + 1) x' (pUp F1 20 4 (u + 1)) (by omega) (by omega) (w1.at (Or.inr rfl)) pUp_s (by rw [pUp_k (by decide)]; exact e3) (by omega) (by omega) (by rw [pUp_a (by decide)]; exact el) (fun t2 p2 g gr => cf t2 p2 pZ (RN.1 dd u p t2 p2 g z gr)) (fun t2 p2 g gr => by
          have r := ck t2 p2 (pNt g) (RN.2.1 dd u p t2 p2 g z gr)
          rcases hx with hx | ⟨hx, _⟩
          · rw [if_pos hx] at r
            rw [if_neg (by omega)]
            exact r
          · rw [if_neg (by omega), pNt_nt] at r
            rw [if_pos (by omega)]
            exact r)
        rw [show u + 1 - t = u - t + 1 by omega] at q
        exact q
      exact vX5_readPlain_18 hd hB 20 dd x (u - t) 1 ⟨fun a => absurd a (by decide), fun _ => ⟨fun y => ⟨by omega, on 0 (Or.inl rfl) (by omega)⟩, fun y => ⟨by omega, on 1 (Or.inr rfl) (by omega)⟩⟩⟩
  exact vX5_readPlain_0 hd hB 20 dd (by
    have q := lp (T - t).toNat.succ t 0 F (by omega) (Or.inl rfl) (FrL.refl hF) h4 h3 (Int.le_refl t) t1 rfl (fun t2 p2 g gr => ⟨g, gr⟩) (fun t2 p2 g gr => by rw [if_pos rfl]; exact gr)
    rw [show t - t = 0 by omega] at q
    exact q)
