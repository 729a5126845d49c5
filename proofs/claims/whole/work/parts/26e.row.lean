/-! THE PAIR row, put together -/
theorem FrG.ek2 {F E F' E' : Int → Int → Int} (h : FrG F E F' E') : EK2 E E' := fun a ha => by
  have n : ∀ k, k ∈ actE2 → a ≠ k := fun k hk e => ha (e ▸ hk)
  have n1 := n 36 (by decide)
  have n2 := n 37 (by decide)
  have n3 := n 38 (by decide)
  have n4 := n 39 (by decide)
  have n5 := n 40 (by decide)
  exact h.1 a (n 3 (by decide)) (n 32 (by decide)) (n 33 (by decide)) (by omega)
theorem FrH.ek2 {F E F' E' : Int → Int → Int} (h : FrH F E F' E') : EK2 E E' := fun a ha => by
  have n : ∀ k, k ∈ actE2 → a ≠ k := fun k hk e => ha (e ▸ hk)
  have n1 := n 86 (by decide)
  have n2 := n 87 (by decide)
  have n3 := n 88 (by decide)
  have n4 := n 89 (by decide)
  have n5 := n 90 (by decide)
  have n6 := n 91 (by decide)
  have n7 := n 92 (by decide)
  have n8 := n 93 (by decide)
  have n9 := n 94 (by decide)
  have n10 := n 95 (by decide)
  exact h.1 a (n 68 (by decide)) (n 71 (by decide)) (n 72 (by decide)) (n 84 (by decide)) (by omega)
theorem EK2.trans {E E' E'' : Int → Int → Int} (h : EK2 E E') (h' : EK2 E' E'') : EK2 E E'' := fun a ha => (h' a ha).trans (h a ha)
theorem EK2.up {E E' : Int → Int → Int} {a k v : Int} (h : EK2 E E') (ha : a ∈ actE2) : EK2 E (pUp E' a k v) := fun b hb => (pUp_an (fun (e : b = a) => hb (by rw [e]; exact ha))).trans (h b hb)
theorem EK2.refl {E : Int → Int → Int} : EK2 E E := fun _ _ => rfl
theorem FK2.refl {F : Int → Int → Int} (h : FS F) : FK2 F F := ⟨h, fun _ _ => rfl, fun _ _ => rfl⟩
theorem FK2.trans {F F' F'' : Int → Int → Int} (h : FK2 F F') (h' : FK2 F' F'') : FK2 F F'' := ⟨h'.1, fun t ht => (h'.2.1 t ht).trans (h.2.1 t ht), fun a ha => (h'.2.2 a ha).trans (h.2.2 a ha)⟩
theorem FK2.up {F F' : Int → Int → Int} {a k v : Int} (h : FK2 F F') (h1 : fTab.all (fun t => !(decide (t.1 = a) && decide (t.2.1 = k))) = true) (h2 : actF2.all (fun t => !(decide (t.1 = a) && decide (t.2 = k))) = true) (h3 : a < 105) : FK2 F (pUp F' a k v) := by
  refine ⟨h.1.up h1, fun t ht => ?_, fun b hb => (pUp_an (by omega)).trans (h.2.2 b hb)⟩
  have := List.all_eq_true.mp h2 t ht
  simp at this
  unfold pUp
  rw [if_neg (fun q => this.elim (fun z => z q.1) (fun z => z q.2))]
  exact h.2.1 t ht
theorem FrG.fk2 {F E F' E' : Int → Int → Int} (h : FrG F E F' E') : FK2 F F' := by
  refine ⟨h.2.1, fun t ht => ?_, fun a ha => funext fun k => h.2.2 a k (by omega)⟩
  have q : actF2.all (fun t => !(decide (t.1 = 30))) = true := by decide
  have := List.all_eq_true.mp q t ht
  simp at this
  exact h.2.2 t.1 t.2 this
theorem FrH.fk2 {F E F' E' : Int → Int → Int} (h : FrH F E F' E') : FK2 F F' := by
  refine ⟨h.2.1, fun t ht => ?_, fun a ha => funext fun k => h.2.2 a k (by omega)⟩
  have q : actF2.all (fun t => !(decide (t.1 = 66)) || decide (t.2 = 20)) = true := by decide
  have := List.all_eq_true.mp q t ht
  simp at this
  exact h.2.2 t.1 t.2 (by omega)
theorem two_row {l : Launch} {G : pG} : Pair lawLR l G 32 mX11_row (0, 0) 8 mX12_row (0, 0) [] := by
  intro n K F E h
  have hK := h.KS
  have hF := h.FS
  have hC := cinv_cz h.2.1.1.2
  obtain ⟨L, hl, hlr⟩ := inv_law h
  obtain ⟨⟨t1, t2, t3⟩, ti⟩ := inv_terms h
  obtain ⟨hk, hi1, hi2, hu, htp, hlt, hst, h3, hd, h20⟩ := h.2
  obtain ⟨tp1, tp2, tp3⟩ := htp
  have hrel := hk.1.1
  have ek1 : EK2 E E := EK2.refl
  refine vX11_row_0 0 ?_
  simp only [hF.f0_9, hF.f0_13, hK.k0, hK.k22, hK.k49]
  refine ⟨trivial, trivial, fun z => ?_, fun z F1 f1 => ⟨trivial, by decide, by decide, fun E2 e2 => ⟨_, rfl, ?_, hK, ?_⟩⟩⟩
  · -- a row
    generalize em : ((F 22 1 + 2) / 3).toNat = m
    refine c_row_23 (L := L) (mood := E 4 2) (bud := E 4 0) (len := F 22 1) (tp := E 75) hK ti.2.2 tp2 m 0 0 0 (cz (E 3)) F E hF rfl hC hl rfl rfl ⟨hu.1, hu.2.1⟩ rfl (fun j j0 j1 => (tp3 j j0 j1).1.symm) (by decide) (by omega) (by omega) (by decide) (by decide) (by decide) (by decide) fun F1 E1 w1 c1 => ?_
    have ok := rwS_ok (L := L) (mood := E 4 2) (bud := E 4 0) (tp := E 75) (len := F 22 1) m 0 0 (cz (E 3)) hC
    generalize es : rwS L (E 4 2) (E 4 0) (E 75) (F 22 1) m 0 0 (cz (E 3)) = s at *
    have k1 : ∀ a k, a ≠ 30 → F1 a k = F a k := w1.2.2
    refine vX11_row_23 0 s.1 (0 + (m : Int)) (0 + 3 * (m : Int)) ?_
    simp only [w1.2.1.f0_9, w1.2.1.f0_3, hK.k0, hK.k22, hK.k10, k1 22 1 (by decide)]
    refine ⟨trivial, trivial, fun _ F2 f2 => ⟨by omega, fun F3 f3 => ⟨trivial, fun F4 f4 F5 f5 => ⟨_, rfl, ek2_out w1.ek2, hK, ?_⟩⟩⟩, fun y => absurd (by omega) y⟩
    have fk5 : FK2 F F5 := by
      rw [f5, f4, f3, f2]
      exact (((w1.fk2.up (by decide +kernel) (by decide) (by decide)).up (by decide +kernel) (by decide) (by decide)).up (by decide +kernel) (by decide) (by decide)).up (by decide +kernel) (by decide) (by decide)
    have f66 : ∀ k, F5 66 k = F 66 k := fun k => by
      rw [f5, f4, f3, f2, pUp_an (by decide), pUp_an (by decide), pUp_an (by decide), pUp_an (by decide)]
      exact k1 66 k (by decide)
    have er : ∀ p, 66 ≤ p → E1 p = E p := fun p hp => w1.1 p (by omega) (by omega) (by omega) (by omega)
    -- the reference
    refine vX12_row_0 66 ⟨by rw [hK.k66], fun G1 g1 G2 g2 => ⟨fun _ G3 g3 => ?_, fun y => absurd (by rw [f66, tp1] at y; exact y) z⟩⟩
    rw [f66 13, tp1]
    have hG3 : FS G3 := by rw [g3, g2, g1]; exact ((fk5.1.up (by decide +kernel)).up (by decide +kernel)).up (by decide +kernel)
    have kG : ∀ p k, ¬ (p = 66 ∧ (k = 0 ∨ k = 13 ∨ k = 11)) → G3 p k = F5 p k := fun p k q => by
      rw [g3, g2, g1]; unfold pUp; rw [if_neg (by omega), if_neg (by omega), if_neg (by omega)]
    have fkG : FK2 F G3 := by
      rw [g3, g2, g1]
      exact ((fk5.up (by decide +kernel) (by decide) (by decide)).up (by decide +kernel) (by decide) (by decide)).up (by decide +kernel) (by decide) (by decide)
    have s11 : G3 66 11 = 0 := by rw [g3, pUp_s]
    refine r_row_35 (L := L) (mood := E 4 2) (bud := E 4 0) (len := F 22 1) (tp := E 75) (g := E 68) hK ti.2.2 tp2 hlr hl.2 t3 t1 m 0 0 (cz (E 3)) G3 E1 hG3 ⟨by rw [er 68 (by decide)]; exact rel_cz hrel, fun j _ => by rw [er 68 (by decide)]⟩ hC (by rw [kG 66 20 (by omega), f66]; exact h20) (by rw [kG 66 8 (by omega), f66, hu.2.2.1]; exact hu.2.1) (fun j _ _ => by rw [er 75 (by decide)]) (by decide) (by omega) (by omega) (by decide) (by decide) (by omega) fun F6 E6 w6 ro e6 => ?_
    rw [es] at ro e6 ⊢
    refine vX12_row_35 66 (F 22 1) s.1 (0 + 3 * (m : Int)) ⟨fun _ => ⟨by rw [hK.k66], fun F7 f7 => ?_⟩, fun y => absurd (by omega) y⟩
    have hF7 : FS F7 := by rw [f7]; exact w6.2.1.up (by decide +kernel)
    refine k_tell hK hF7.f66_2 (by omega) (fun _ => vX12_row_108 s.1 ⟨rfl, ek2_out w6.ek2, ?_⟩) (fun y => absurd y (by omega))
    show Inv lawLR G n K (pUp F7 66 1 0) E6
    have k7 : ∀ p k, ¬ (p = 66 ∧ (k = 1 ∨ k = 8)) → pUp F7 66 1 0 p k = F6 p k := fun p k q => by
      rw [f7]; unfold pUp; rw [if_neg (by omega), if_neg (by omega)]
    have e60 : ∀ p, p < 66 → E6 p = E1 p := fun p hp => w6.1 p (by omega) (by omega) (by omega) (by omega) (by omega)
    have kA : ∀ p k, p ≠ 66 → pUp F7 66 1 0 p k = F5 p k := fun p k q => by rw [k7 p k (by omega), w6.2.2 p k (by omega), kG p k (by omega)]
    have kB : ∀ k, (k = 59 ∨ k = 61 ∨ k = 62 ∨ k = 18 ∨ k = 70 ∨ k = 74) → pUp F7 66 1 0 66 k = F 66 k := fun k q => by rw [k7 66 k (by omega), w6.2.2 66 k (by omega), kG 66 k (by omega), f66]
    have kC : ∀ p k, p ≠ 66 → p ≠ 30 → ¬ (p = 22 ∧ k = 1) → ¬ (p = 0 ∧ k = 18) → ¬ (p = 10 ∧ k = 3) → ¬ (p = 0 ∧ k = 16) → pUp F7 66 1 0 p k = F p k := fun p k q1 q2 q3 q4 q5 q6 => by
      rw [kA p k q1, f5, f4, f3, f2]; unfold pUp; rw [if_neg q6, if_neg q5, if_neg q4, if_neg q3]; exact k1 p k q2
    have v8 : pUp F7 66 1 0 66 8 = 0 := by rw [pUp_k (by decide), f7, pUp_s]
    have v13 : pUp F7 66 1 0 66 13 = 0 := by rw [k7 66 13 (by omega), w6.2.2 66 13 (by omega), g3, pUp_k (by decide), g2, pUp_s]
    have v11 : pUp F7 66 1 0 66 11 = F6 66 11 := k7 66 11 (by omega)
    have w22 : pUp F7 66 1 0 22 1 = 0 := by rw [kA 22 1 (by decide), f5, f4, f3, f2, pUp_an (by decide), pUp_an (by decide), pUp_an (by decide), pUp_s]
    have w18 : pUp F7 66 1 0 0 18 = 0 + (m : Int) - s.1 := by rw [kA 0 18 (by decide), f5, pUp_k (by decide), f4, pUp_an (by decide), f3, pUp_s]
    have w103 : pUp F7 66 1 0 10 3 = 0 := by rw [kA 10 3 (by decide), f5, pUp_an (by decide), f4, pUp_s]
    have w16 : pUp F7 66 1 0 0 16 = 0 := by rw [kA 0 16 (by decide), f5, pUp_s]
    have ee : ∀ p, p ≠ 3 → p ≠ 32 → p ≠ 33 → (p < 36 ∨ 40 < p) → p ≠ 68 → p ≠ 71 → p ≠ 72 → p ≠ 84 → (p < 86 ∨ 95 < p) → E6 p = E p := fun p h1 h2 h3 h4 h5 h6 h7 h8 h9 => (w6.1 p h5 h6 h7 h8 h9).trans (w1.1 p h1 h2 h3 h4)
    refine inv_act2 lawLOk h ((fkG.trans w6.fk2).trans (by rw [f7]; exact ((FK2.refl w6.2.1).up (by decide +kernel) (by decide) (by decide)).up (by decide +kernel) (by decide) (by decide))) (w1.ek2.trans w6.ek2) (c := s.2) ro (by rw [e60 3 (by decide)]; exact c1) ok.1 ?_ ?_ ⟨?_, ?_⟩ ?_ ⟨?_, ?_, ?_⟩ ?_
    · rw [w103, v8, kC 10 2 (by decide) (by decide) (by omega) (by omega) (by omega) (by omega)]
      exact ⟨hu.1, by decide, rfl, fun i i0 i1 => absurd i1 (by omega)⟩
    · rw [kC 41 1 (by decide) (by decide) (by omega) (by omega) (by omega) (by omega), kC 41 3 (by decide) (by decide) (by omega) (by omega) (by omega) (by omega), kC 41 4 (by decide) (by decide) (by omega) (by omega) (by omega) (by omega), kB 59 (by omega), kB 61 (by omega), kB 62 (by omega), ee 42 (by decide) (by decide) (by decide) (by decide) (by decide) (by decide) (by decide) (by decide) (by decide), ee 43 (by decide) (by decide) (by decide) (by decide) (by decide) (by decide) (by decide) (by decide) (by decide), ee 97 (by decide) (by decide) (by decide) (by decide) (by decide) (by decide) (by decide) (by decide) (by decide), ee 98 (by decide) (by decide) (by decide) (by decide) (by decide) (by decide) (by decide) (by decide) (by decide)]
      exact hlt
    · rw [w16, pUp_s]
    · rw [ee 49 (by decide) (by decide) (by decide) (by decide) (by decide) (by decide) (by decide) (by decide) (by decide), ee 67 (by decide) (by decide) (by decide) (by decide) (by decide) (by decide) (by decide) (by decide) (by decide)]
      exact hst.2
    · rw [w22, v13]
      exact ⟨rfl, by decide, fun i i0 i1 => absurd i1 (by omega)⟩
    · rw [v11, w18]
      omega
    · rw [kB 18 (by omega), kC 0 17 (by decide) (by decide) (by omega) (by omega) (by omega) (by omega)]
      exact h3.2.1
    · rw [kB 70 (by omega), kC 44 5 (by decide) (by decide) (by omega) (by omega) (by omega) (by omega)]
      exact h3.2.2
    · rw [kB 74 (by omega), kC 0 7 (by decide) (by decide) (by omega) (by omega) (by omega) (by omega), ee 19 (by decide) (by decide) (by decide) (by decide) (by decide) (by decide) (by decide) (by decide) (by decide), ee 104 (by decide) (by decide) (by decide) (by decide) (by decide) (by decide) (by decide) (by decide) (by decide)]
      exact hd
  · rw [e2]; exact Out.refl.onF.up (by decide)
  · -- nothing on the tape
    subst f1 e2
    refine vX12_row_0 66 ⟨by rw [hK.k66], fun G1 g1 G2 g2 => ⟨fun y => absurd (by rw [pUp_an (by decide), tp1]; exact z) y, fun _ => ?_⟩⟩
    subst g1 g2
    have hG : FS (pUp (pUp (pUp F 0 16 (-6)) 66 0 0) 66 13 0) := ((hF.up (by decide +kernel)).up (by decide +kernel)).up (by decide +kernel)
    refine k_tell hK hG.f66_2 (by decide) (fun y => absurd y (by decide)) (fun _ => vX12_row_25 _ ⟨rfl, Out.refl.onF.up (by decide), ?_⟩)
    refine inv_act2 lawLOk h (((((FK2.refl hF).up (by decide +kernel) (by decide) (by decide)).up (by decide +kernel) (by decide) (by decide)).up (by decide +kernel) (by decide) (by decide)).up (by decide +kernel) (by decide) (by decide)) ((ek1.up (by decide)).up (by decide)) (c := cz (E 3)) ⟨?_, fun j _ => ?_⟩ ?_ hC ?_ ?_ ⟨?_, ?_⟩ ?_ ⟨?_, ?_, ?_⟩ ?_
    all_goals try simp only [pUp1, rUpA, Int.reduceEq, reduceIte]
    · exact rel_cz hrel
    · exact hu
    · exact hlt
    · exact rfr_up (v := -6) hst.2 (by decide)
    · rw [z]
      exact ⟨rfl, by decide, fun i i0 i1 => absurd i1 (by omega)⟩
    · exact h3.1
    · exact h3.2.1
    · exact h3.2.2
    · exact hd
