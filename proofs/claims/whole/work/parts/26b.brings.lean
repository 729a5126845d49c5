/-! THE PAIRS brings and compare -/
noncomputable def vBr (c : Int → Int) (L : Option tLaw) (mood r a b i : Int) : Int := if ((0 ≤ r ∧ r < 3) ∧ (0 ≤ a ∧ a < 10) ∧ (0 ≤ b ∧ b < 10)) ∧ 0 ≤ i ∧ i ≤ 1 then (if i = 0 then (papS c L mood (fun i => i) false r a b).2.2.2 1 else (papS c L mood (fun i => i) false r a b).2.2.2 0) else -1
theorem FrP.zero {F E F' E' : Int → Int → Int} (h : FrP F E F' E') : FrP F E (pUp F' 66 0 0) E' := ⟨h.1, h.2.1.up (by decide +kernel), fun a k q1 q2 => by unfold pUp; rw [if_neg (by omega)]; exact h.2.2 a k q1 q2⟩
theorem FrP.e68 {F E F' E' : Int → Int → Int} (h : FrP F E F' E') : E' 68 = E 68 := h.1 68 (by decide) (by decide) (by decide) (by decide) (by decide) (by decide) (by decide) (by decide) (by decide)
theorem FrP.f20 {F E F' E' : Int → Int → Int} (h : FrP F E F' E') : F' 66 20 = F 66 20 := h.2.2 66 20 (by decide) (by omega)
theorem two_brings {l : Launch} {G : pG} {r a b i : Int} : Pair lawLR l G 32 mX11_brings (0, 0) 8 mX12_brings (0, 0) [(0, r), (0, a), (0, b), (0, i)] := by
  intro n K F E h
  have hK := h.KS
  have hF := h.FS
  have hC := cinv_cz h.2.1.1.2
  obtain ⟨L, hl, hlr⟩ := inv_law h
  obtain ⟨⟨t1, t2, t3⟩, ti⟩ := inv_terms h
  have key : ∀ F1 E1, FrP F E F1 E1 → PostC lawLR l G 8 mX12_brings (0, 0) [(0, r), (0, a), (0, b), (0, i)] (n, K, F, E) (some (0, vBr (cz (E 3)) L (E 4 2) r a b i)) (n, K, F1, E1) := by
    intro F1 E1 p1
    refine ⟨_, rfl, p1.out, hK, ?_⟩
    refine vX12_brings_0 66 r a b i ⟨by rw [hK.k66], fun F2 f2 => ?_⟩
    have p2 : FrP F E F2 E1 := by rw [f2]; exact p1.zero
    have q2 : FrP F1 E1 F2 E1 := by rw [f2]; exact (FrP.refl p1.2.1).zero
    have no : ¬ (((0 ≤ r ∧ r < 3) ∧ (0 ≤ a ∧ a < 10) ∧ (0 ≤ b ∧ b < 10)) ∧ 0 ≤ i ∧ i ≤ 1) → PostR lawLR G (vBr (cz (E 3)) L (E 4 2) r a b i) (n, K, F1, E1) (some (0, -1)) (n, K, F2, E1) := fun z => by
      refine ⟨?_, q2.out, p2.inv h⟩
      unfold vBr
      rw [if_neg z]
    refine ⟨fun z => no (fun q => z q.1), fun z => ⟨fun y => ?_, fun y => no (fun q => y q.2)⟩⟩
    refine r_costNow (c := cz (E 3)) (L := L) (mood := E 4 2) hK p2.2.1 (by rw [p2.e68]; exact rel_cz h.2.1.1.1) hC (by rw [p2.f20]; exact h.2.2.2.2.2.2.2.2.2.2) (by rw [p2.e68]; exact hlr) hl.2 (by rw [p2.e68]; exact t3) ti.2.2 z.1 z.2.1 z.2.2 fun F3 E3 p3 _ _ k51 => ?_
    refine vX12_brings_34 66 i _ ⟨fun x => ⟨?_, (q2.trans p3).out, (p2.trans p3).inv h⟩, fun x => ⟨by rw [hK.k66], ?_, (q2.trans p3).out, (p2.trans p3).inv h⟩⟩
    · unfold vBr
      rw [if_pos ⟨z, y⟩, if_neg x]
    · unfold vBr
      rw [if_pos ⟨z, y⟩, if_pos x, k51]
  have no : ¬ (((0 ≤ r ∧ r < 3) ∧ (0 ≤ a ∧ a < 10) ∧ (0 ≤ b ∧ b < 10)) ∧ 0 ≤ i ∧ i ≤ 1) → PostC lawLR l G 8 mX12_brings (0, 0) [(0, r), (0, a), (0, b), (0, i)] (n, K, F, E) (some (0, -1)) (n, K, F, E) := fun z => by
    have q := key F E (FrP.refl hF)
    unfold vBr at q
    rw [if_neg z] at q
    exact q
  refine vX11_brings_0 0 r a b i ?_
  simp only [hF.f0_0, hF.f1_0, hK.k0, hK.k1]
  refine ⟨fun z => no (fun q => z q.1), fun z => ⟨fun y => no (by omega), fun y => ⟨fun x => ⟨trivial, trivial, ?_⟩, fun x => no (by omega)⟩⟩⟩
  refine c_lawInForce hK hF hl fun t ht => ?_
  refine vX11_brings_37 0 r a b i t 2 0 ⟨by rw [hK.k0], ?_⟩
  refine c_costOnPaper (c := cz (E 3)) (L := L) hK hF (Or.inl ⟨rfl, rfl⟩) rfl hC ⟨ht, hl.2⟩ rfl ti.2.2 z.1 z.2.1 z.2.2 fun F1 E1 w1 k12 => ?_
  have q := key F1 E1 w1.p
  unfold vBr at q
  rw [if_pos ⟨z, by omega⟩] at q
  refine vX11_brings_43 0 i _ ⟨fun x => ?_, fun x => ?_⟩
  · rw [if_neg x] at q
    exact q
  · simp only [w1.2.1.f0_10, hK.k0, hK.k30, k12]
    rw [if_pos x] at q
    exact ⟨trivial, trivial, q⟩
/-- the law at a place -/
theorem inv_lawAt {G : pG} {n : Nat} {K : Int → Nat × Nat} {F E : Int → Int → Int} (h : Inv lawLR G n K F E) {i : Int} (hi : i = -1 ∨ (0 ≤ i ∧ i < F 1 6)) : ∃ L, ((L = none ∧ i = -1) ∨ (0 ≤ i ∧ ∃ L', L = some L' ∧ LawC K F E (E 7 i) L')) ∧ LwOk L ∧ LawF (rUp (E 68) 2 i) L := by
  obtain ⟨g1, l0, l6, la, _⟩ := h.2.1.2.2.2.1
  by_cases e : i = -1
  · exact ⟨none, Or.inl ⟨rfl, e⟩, fun L' q => absurd q (by simp), Or.inl ⟨rfl, by rw [rUp_s]; exact e⟩⟩
  · obtain ⟨L, hl, hx⟩ := lawAt_split (la i (by omega) (by omega))
    have ok := hl.2.2.2.2.2.2
    have cl : ∀ c, c < L.1 → ClOk (L.2 c) := fun c hc => (ok.2.2 c hc).1
    refine ⟨some L, Or.inr ⟨by omega, L, rfl, hl⟩, fun L' q => ?_, Or.inr ⟨L, rfl, by rw [rUp_s]; omega, ?_, ok.2.1, cl⟩⟩
    · injection q with q
      subst q
      exact cl
    · rw [rUp_s]
      refine hx.congr ok.2.1 fun j j0 j1 => ?_
      rw [rUp_n (by omega)]
theorem two_compare {l : Launch} {G : pG} {i r a b : Int} : Pair lawLR l G 32 mX11_compare (0, 0) 8 mX12_compare (0, 0) [(0, i), (0, r), (0, a), (0, b)] := by
  intro n K F E h
  have hK := h.KS
  have hF := h.FS
  have hC := cinv_cz h.2.1.1.2
  obtain ⟨⟨t1, t2, t3⟩, ti⟩ := inv_terms h
  obtain ⟨g1, l0, l6, la, _⟩ := h.2.1.2.2.2.1
  -- refused
  have no : ¬ ((i = -1 ∨ (0 ≤ i ∧ i < F 1 6)) ∧ (0 ≤ r ∧ r < 3) ∧ (0 ≤ a ∧ a < 10) ∧ (0 ≤ b ∧ b < 10)) → PostC lawLR l G 8 mX12_compare (0, 0) [(0, i), (0, r), (0, a), (0, b)] (n, K, F, E) (some (0, -1)) (n, K, F, E) := fun z => by
    refine ⟨_, rfl, Out.refl, hK, ?_⟩
    refine vX12_compare_0 66 i r a b ⟨by rw [hK.k66], fun F2 f2 => ?_⟩
    have q2 : FrP F E F2 E := by rw [f2]; exact (FrP.refl hF).zero
    simp only [q2.2.1.f66_3, hF.f66_3, hK.k68]
    refine ⟨trivial, by decide, by omega, fun y => ⟨rfl, q2.out, q2.inv h⟩, fun y => ⟨fun x => absurd ⟨by omega, x⟩ z, fun x => ⟨rfl, q2.out, q2.inv h⟩⟩⟩
  have yes : (i = -1 ∨ (0 ≤ i ∧ i < F 1 6)) → (0 ≤ r ∧ r < 3) ∧ (0 ≤ a ∧ a < 10) ∧ (0 ≤ b ∧ b < 10) → ∀ t, ((i = -1 ∧ t = -1) ∨ (i ≠ -1 ∧ t = E 7 i)) → PC l G 31 mX11_costOnPaper (0, 0) [(2, 0), (2, 2), (2, t), (0, r), (0, a), (0, b)] (n, K, F, E) (fun r_1 μ => PW l G 32 mX11_compare (0, 0) 58 [] (r_1.toList ++ []) μ (PostC lawLR l G 8 mX12_compare (0, 0) [(0, i), (0, r), (0, a), (0, b)] (n, K, F, E))) := by
    intro hi z t ht
    obtain ⟨L, hl, hlo, hlf⟩ := inv_lawAt h hi
    have hl' : (L = none ∧ t = -1) ∨ ∃ L', L = some L' ∧ LawC K F E t L' := by
      rcases hl with ⟨e1, e2⟩ | ⟨e1, L', e2, e3⟩
      · exact Or.inl ⟨e1, by omega⟩
      · refine Or.inr ⟨L', e2, ?_⟩
        rcases ht with ⟨q, _⟩ | ⟨_, q⟩
        · omega
        · rw [q]; exact e3
    refine c_costOnPaper (c := cz (E 3)) (L := L) hK hF (Or.inl ⟨rfl, rfl⟩) rfl hC ⟨hl', hlo⟩ rfl ti.2.2 z.1 z.2.1 z.2.2 fun F1 E1 w1 _ => ?_
    have p1 := w1.p
    refine vX11_compare_58 _ ⟨_, rfl, p1.out, hK, ?_⟩
    refine vX12_compare_0 66 i r a b ⟨by rw [hK.k66], fun F2 f2 => ?_⟩
    have p2 : FrP F E F2 E1 := by rw [f2]; exact p1.zero
    have q2 : FrP F1 E1 F2 E1 := by rw [f2]; exact (FrP.refl p1.2.1).zero
    simp only [p2.2.1.f66_3, p1.2.1.f66_3, hK.k68, p1.e68]
    refine ⟨trivial, by decide, by omega, fun y => absurd (by omega) y, fun y => ⟨fun x => ⟨trivial, by decide, by decide, fun E3 e3 => ?_⟩, fun x => absurd z x⟩⟩
    have r68 : E3 68 = rUp (E 68) 2 i := by rw [e3, pUp1, if_pos rfl, p1.e68]
    have cz68 : cz (sh6 (E3 68)) = cz (E 3) := by
      rw [r68, ← rel_cz h.2.1.1.1]
      refine cz_ext fun k k0 k1 => ?_
      rw [sh6_at (j := k + 6) rfl, sh6_at (j := k + 6) rfl, rUp_n (by omega)]
    refine r_costNow (c := cz (E 3)) (L := L) (mood := E 4 2) hK p2.2.1 cz68 hC (by rw [p2.f20]; exact h.2.2.2.2.2.2.2.2.2.2) (by rw [r68]; exact hlf) hlo (by rw [r68, rUp_n (by decide)]; exact t3) ti.2.2 z.1 z.2.1 z.2.2 fun F4 E4 p4 _ _ _ => ?_
    refine vX12_compare_48 66 (E 68 2) _ ?_
    simp only [p4.2.1.f66_3, hK.k66, hK.k68]
    refine ⟨trivial, by decide, trivial, by decide, fun E5 e5 => ?_⟩
    have r5 : E5 68 = E 68 := by
      rw [e5, pUp1, if_pos rfl, p4.e68, r68]
      funext j
      rw [rUpA, rUpA]
      by_cases q : j = 2
      · rw [if_pos q, q]
      · rw [if_neg q, if_neg q]
    have n5 : ∀ p, p ≠ 68 → E5 p = E4 p := fun p hp => by rw [e5, pUp_an hp]
    have n3 : ∀ p, p ≠ 68 → E3 p = E1 p := fun p hp => by rw [e3, pUp_an hp]
    have p5 : FrP F1 E1 F4 E5 := ⟨fun p h1 h2 h3 h4 h5 h6 h7 h8 h9 => by
      by_cases q : p = 68
      · rw [q, r5, p1.e68]
      · rw [n5 p q, p4.1 p h1 h2 h3 h4 h5 h6 h7 h8 h9, n3 p q], p4.2.1, fun p k a1 a2 => (p4.2.2 p k a1 a2).trans (q2.2.2 p k a1 a2)⟩
    exact ⟨rfl, p5.out, (p1.trans p5).inv h⟩
  refine vX11_compare_0 0 i r a b ?_
  simp only [hF.f0_0, hF.f1_0, hF.f1_5, hK.k0, hK.k1, hK.k7]
  refine ⟨fun e => ⟨fun z => ⟨trivial, trivial, fun x => absurd e x, fun _ => yes (Or.inl e) z (-1) (Or.inl ⟨e, rfl⟩)⟩, fun z => no (fun q => z q.2)⟩, fun e => ⟨trivial, trivial, fun z => no (by omega), fun z => ⟨fun y => ⟨fun _ => ⟨by decide, trivial, by omega, yes (Or.inr z) y _ (Or.inr ⟨e, rfl⟩)⟩, fun x => absurd x e⟩, fun y => no (fun q => y q.2)⟩⟩⟩
