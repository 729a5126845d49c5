/-! PAIRS that write, without loops (gen_pairs.py) -/
/-- a law looks only at its own row of the reference -/
def LOk (LR : tLR) : Prop := ∀ a b c d g g', (∀ j, 0 ≤ j → j < 900 → g' j = g j) → LR a b c d g → LR a b c d g'
theorem LawAt.row {LR : tLR} (hl : LOk LR) {K : Int → Nat × Nat} {F E : Int → Int → Int} {t : Int} {g g' : Int → Int} (e : ∀ j, 0 ≤ j → j < 900 → g' j = g j) (h : LawAt LR K F E t g) : LawAt LR K F E t g' := by
  obtain ⟨h1, h2, h3, h4, h5, h6, h7⟩ := h
  exact ⟨h1, h2, h3, h4, h5, h6, hl _ _ _ _ _ _ e h7⟩
theorem KR.chg {LA : Int → (Int → Int) → Prop} {cA cT c1 c2 cL cA' cT' c1' c2' g g' : Int → Int} {s l f s' f' : Int} (h : KR LA cA cT c1 c2 cL s l f g) (hl : ∀ t r r', (∀ j, 0 ≤ j → j < 900 → r' j = r j) → LA t r → LA t r') (hg : ∀ j, 135 ≤ j → g' j = g j)
    (a : Rel cA' g' ∧ CInv cA') (b : (g' 3 = cT' 0 ∧ g' 4 = cT' 1 ∧ g' 5 = cT' 2) ∧ TInv cT') (c : g' 0 = s' ∧ 0 ≤ s' ∧ s' ≤ 6 ∧ ∀ k, 0 ≤ k → k < s' → g' (123 + 2 * k) = c1' k ∧ g' (124 + 2 * k) = c2' k ∧ (0 ≤ c1' k ∧ c1' k ≤ 2) ∧ 0 ≤ c2' k ∧ c2' k ≤ 9)
    (d : g' 1 = g 1) (e : g' 2 = f' ∧ -1 ≤ f' ∧ f' < l) : KR LA cA' cT' c1' c2' cL s' l f' g' := by
  obtain ⟨_, _, _, ⟨h1, h2, h3, h4⟩, _⟩ := h
  exact ⟨a, b, c, ⟨d.trans h1, h2, h3, ⟨fun i i0 i1 => hl _ _ _ (fun j j0 j1 => hg _ (by omega)) (h4.1 i i0 i1), h4.2⟩⟩, e⟩
theorem KR.seen {LA : Int → (Int → Int) → Prop} {cA cT c1 c2 cL g : Int → Int} {s l f k0 v : Int} (h : KR LA cA cT c1 c2 cL s l f g) (h0 : k0 ≠ 0) (h1 : k0 < 123) : rUp g k0 v 0 = s ∧ 0 ≤ s ∧ s ≤ 6 ∧ ∀ k, 0 ≤ k → k < s → rUp g k0 v (123 + 2 * k) = c1 k ∧ rUp g k0 v (124 + 2 * k) = c2 k ∧ (0 ≤ c1 k ∧ c1 k ≤ 2) ∧ 0 ≤ c2 k ∧ c2 k ≤ 9 := by
  obtain ⟨h2, h3, h4, h5⟩ := h.2.2.1
  refine ⟨(rUp_n (Ne.symm h0)).trans h2, h3, h4, fun k a b => ?_⟩
  rw [rUp_n (by omega), rUp_n (by omega)]
  exact h5 k a b
theorem two_end {LR : tLR} {l : Launch} {G : pG} {x1 : Int} : Pair LR l G 0 mX11_end (0, 0) 0 mX12_end (0, 0) [(0, x1)] := by
  intro n K F E h
  have hK := h.KS
  have hF := h.FS
  have ht := h.2.2.2.2.2.1
  have e13 := ht.1
  have b13 := ht.2.1
  all_goals refine vX11_end_0 0 _ ?_
  all_goals simp only [hF.f0_0, hF.f0_9, hF.f0_11, hF.f0_12, hF.f0_13, hF.f1_0, hF.f1_1, hF.f1_2, hF.f1_3, hF.f2_0, hF.f22_0, hF.f41_0, hF.f41_2, hF.f66_2, hF.f66_3, hF.f66_12, hF.f66_58, hF.f66_60, hK.k0, hK.k1, hK.k2, hK.k3, hK.k4, hK.k5, hK.k6, hK.k22, hK.k23, hK.k41, hK.k42, hK.k43, hK.k44, hK.k49, hK.k66, hK.k67, hK.k68, hK.k75, hK.k97, hK.k98, pUp1, pRow1, rUpA, Int.reduceEq, reduceIte, Int.reduceNeg, Int.reduceLE, Int.reduceLT, eq_self, true_and, and_true, and_self, forall_eq, Option.toList, List.cons_append, List.nil_append, List.append_nil]
  all_goals repeat' (first | with_reducible (refine And.intro ?_ ?_) | with_reducible (intro _))
  all_goals try first | contradiction | rfl | omega
  all_goals refine ⟨_, rfl, (by repeat (first | exact Out.refl | exact Out.F | refine Out.up ?_ (by decide) | refine Out.row ?_ (by decide))), hK, vX12_end_0 66 _ ?_⟩
  all_goals simp only [hF.f0_0, hF.f0_9, hF.f0_11, hF.f0_12, hF.f0_13, hF.f1_0, hF.f1_1, hF.f1_2, hF.f1_3, hF.f2_0, hF.f22_0, hF.f41_0, hF.f41_2, hF.f66_2, hF.f66_3, hF.f66_12, hF.f66_58, hF.f66_60, hK.k0, hK.k1, hK.k2, hK.k3, hK.k4, hK.k5, hK.k6, hK.k22, hK.k23, hK.k41, hK.k42, hK.k43, hK.k44, hK.k49, hK.k66, hK.k67, hK.k68, hK.k75, hK.k97, hK.k98, pUp1, pRow1, rUpA, Int.reduceEq, reduceIte, Int.reduceNeg, Int.reduceLE, Int.reduceLT, eq_self, true_and, and_true, and_self, forall_eq, Option.toList, List.cons_append, List.nil_append, List.append_nil]
  all_goals repeat' (first | with_reducible (refine And.intro ?_ ?_) | with_reducible (intro _))
  all_goals try first | contradiction | rfl | omega
  all_goals refine ⟨rfl, (by repeat (first | exact Out.refl | exact Out.F | refine Out.up ?_ (by decide) | refine Out.row ?_ (by decide))), ?_⟩
  any_goals exact h.zero
  dsimp only [InvM]
  refine inv_build h ?_ ?_ ?_ ?_ ?_ ?_ ?_ ?_ ?_ ?_ ?_ ?_ ?_ ?_ ?_
  · repeat (first | exact h.1.2.1 | refine FS.up ?_ (by decide +kernel))
  · repeat (first | exact h.1.2.2.2.1 | refine ES.up ?_ (by decide +kernel) | refine ES.row ?_ (by decide +kernel))
  · intro a ha; repeat (first | rfl | rw [pUp_an (by omega)] | rw [pRow_ne (by omega)])
  · intro a ha; repeat (first | rfl | rw [pUp_an (by omega)] | rw [pRow_ne (by omega)])
  · intro a ha; repeat (first | rfl | rw [pUp_an (by omega)] | rw [pRow_ne (by omega)])
  all_goals try simp only [pUp1, pRow1, rUpA, Int.reduceEq, reduceIte]
  all_goals first | exact h.2.1 | exact h.2.2.1 | exact h.2.2.2.1 | exact h.2.2.2.2.1 | exact h.2.2.2.2.2.1 | exact h.2.2.2.2.2.2.1 | exact h.2.2.2.2.2.2.2.1 | exact h.2.2.2.2.2.2.2.2.1 | exact h.2.2.2.2.2.2.2.2.2.1 | exact h.2.2.2.2.2.2.2.2.2.2 | skip
  exact ⟨rfl, by omega, fun i i0 i1 => ht.2.2 i i0 (by omega)⟩
theorem two_forget {LR : tLR} {l : Launch} {G : pG} (hL : LOk LR) : Pair LR l G 0 mX11_forget (0, 0) 0 mX12_forget (0, 0) [] := by
  intro n K F E h
  have hK := h.KS
  have hF := h.FS
  have hl : ∀ t r r', (∀ j, 0 ≤ j → j < 900 → r' j = r j) → LawAt LR K F E t r → LawAt LR K F E t r' := fun t r r' e q => q.row hL e
  have hk := h.2.1
  have hR := hk.1.1
  have hC := hk.1.2
  have hT := hk.2.1
  have hS := hk.2.2.1
  have hW := hk.2.2.2.1
  have hI := hk.2.2.2.2
  all_goals refine vX11_forget_0 0 ?_
  all_goals simp only [hF.f0_0, hF.f0_9, hF.f0_11, hF.f0_12, hF.f0_13, hF.f1_0, hF.f1_1, hF.f1_2, hF.f1_3, hF.f2_0, hF.f22_0, hF.f41_0, hF.f41_2, hF.f66_2, hF.f66_3, hF.f66_12, hF.f66_58, hF.f66_60, hK.k0, hK.k1, hK.k2, hK.k3, hK.k4, hK.k5, hK.k6, hK.k22, hK.k23, hK.k41, hK.k42, hK.k43, hK.k44, hK.k49, hK.k66, hK.k67, hK.k68, hK.k75, hK.k97, hK.k98, pUp1, pRow1, rUpA, Int.reduceEq, reduceIte, Int.reduceNeg, Int.reduceLE, Int.reduceLT, eq_self, true_and, and_true, and_self, forall_eq, Option.toList, List.cons_append, List.nil_append, List.append_nil]
  all_goals repeat' (first | with_reducible (refine And.intro ?_ ?_) | with_reducible (intro _))
  all_goals try first | contradiction | rfl | omega
  all_goals refine ⟨_, rfl, (by repeat (first | exact Out.refl | exact Out.F | refine Out.up ?_ (by decide) | refine Out.row ?_ (by decide))), hK, vX12_forget_0 66 ?_⟩
  all_goals simp only [hF.f0_0, hF.f0_9, hF.f0_11, hF.f0_12, hF.f0_13, hF.f1_0, hF.f1_1, hF.f1_2, hF.f1_3, hF.f2_0, hF.f22_0, hF.f41_0, hF.f41_2, hF.f66_2, hF.f66_3, hF.f66_12, hF.f66_58, hF.f66_60, hK.k0, hK.k1, hK.k2, hK.k3, hK.k4, hK.k5, hK.k6, hK.k22, hK.k23, hK.k41, hK.k42, hK.k43, hK.k44, hK.k49, hK.k66, hK.k67, hK.k68, hK.k75, hK.k97, hK.k98, pUp1, pRow1, rUpA, Int.reduceEq, reduceIte, Int.reduceNeg, Int.reduceLE, Int.reduceLT, eq_self, true_and, and_true, and_self, forall_eq, Option.toList, List.cons_append, List.nil_append, List.append_nil]
  all_goals repeat' (first | with_reducible (refine And.intro ?_ ?_) | with_reducible (intro _))
  all_goals try first | contradiction | rfl | omega
  all_goals refine ⟨(by rw [hS.1]), (by repeat (first | exact Out.refl | exact Out.F | refine Out.up ?_ (by decide) | refine Out.row ?_ (by decide))), ?_⟩
  dsimp only [InvM]
  refine inv_build h ?_ ?_ ?_ ?_ ?_ ?_ ?_ ?_ ?_ ?_ ?_ ?_ ?_ ?_ ?_
  · repeat (first | exact h.1.2.1 | refine FS.up ?_ (by decide +kernel))
  · repeat (first | exact h.1.2.2.2.1 | refine ES.up ?_ (by decide +kernel) | refine ES.row ?_ (by decide +kernel))
  · intro a ha; repeat (first | rfl | rw [pUp_an (by omega)] | rw [pRow_ne (by omega)])
  · intro a ha; repeat (first | rfl | rw [pUp_an (by omega)] | rw [pRow_ne (by omega)])
  · intro a ha; repeat (first | rfl | rw [pUp_an (by omega)] | rw [pRow_ne (by omega)])
  all_goals try simp only [pUp1, pRow1, rUpA, Int.reduceEq, reduceIte]
  all_goals first | exact h.2.1 | exact h.2.2.1 | exact h.2.2.2.1 | exact h.2.2.2.2.1 | exact h.2.2.2.2.2.1 | exact h.2.2.2.2.2.2.1 | exact h.2.2.2.2.2.2.2.1 | exact h.2.2.2.2.2.2.2.2.1 | exact h.2.2.2.2.2.2.2.2.2.1 | exact h.2.2.2.2.2.2.2.2.2.2 | skip
  refine hk.chg hl (fun j j0 => if_neg (by omega)) ⟨hR.out (by decide), hC⟩ hT ⟨rfl, by decide, by decide, fun k k0 k1 => by omega⟩ rfl hI
theorem two_force {LR : tLR} {l : Launch} {G : pG} (hL : LOk LR) {x1 : Int} : Pair LR l G 1 mX11_force (0, 0) 2 mX12_force (0, 0) [(0, x1)] := by
  intro n K F E h
  have hK := h.KS
  have hF := h.FS
  have hl : ∀ t r r', (∀ j, 0 ≤ j → j < 900 → r' j = r j) → LawAt LR K F E t r → LawAt LR K F E t r' := fun t r r' e q => q.row hL e
  have hk := h.2.1
  have hR := hk.1.1
  have hC := hk.1.2
  have hT := hk.2.1
  have hS := hk.2.2.1
  have hW := hk.2.2.2.1
  have hI := hk.2.2.2.2
  have h7 := h.2.2.2.2.2.2.2.1.2
  have e1 := hW.1
  have e2 := hI.1
  have b1 := hW.2.1
  have b2 := hW.2.2.1
  all_goals refine vX11_force_0 0 _ ?_
  all_goals simp only [hF.f0_0, hF.f0_9, hF.f0_11, hF.f0_12, hF.f0_13, hF.f1_0, hF.f1_1, hF.f1_2, hF.f1_3, hF.f2_0, hF.f22_0, hF.f41_0, hF.f41_2, hF.f66_2, hF.f66_3, hF.f66_12, hF.f66_58, hF.f66_60, hK.k0, hK.k1, hK.k2, hK.k3, hK.k4, hK.k5, hK.k6, hK.k22, hK.k23, hK.k41, hK.k42, hK.k43, hK.k44, hK.k49, hK.k66, hK.k67, hK.k68, hK.k75, hK.k97, hK.k98, pUp1, pRow1, rUpA, Int.reduceEq, reduceIte, Int.reduceNeg, Int.reduceLE, Int.reduceLT, eq_self, true_and, and_true, and_self, forall_eq, Option.toList, List.cons_append, List.nil_append, List.append_nil]
  all_goals repeat' (first | with_reducible (refine And.intro ?_ ?_) | with_reducible (intro _))
  all_goals try first | contradiction | rfl | omega
  all_goals refine ⟨_, rfl, (by repeat (first | exact Out.refl | exact Out.F | refine Out.up ?_ (by decide) | refine Out.row ?_ (by decide))), hK, vX12_force_0 66 _ ?_⟩
  all_goals simp only [hF.f0_0, hF.f0_9, hF.f0_11, hF.f0_12, hF.f0_13, hF.f1_0, hF.f1_1, hF.f1_2, hF.f1_3, hF.f2_0, hF.f22_0, hF.f41_0, hF.f41_2, hF.f66_2, hF.f66_3, hF.f66_12, hF.f66_58, hF.f66_60, hK.k0, hK.k1, hK.k2, hK.k3, hK.k4, hK.k5, hK.k6, hK.k22, hK.k23, hK.k41, hK.k42, hK.k43, hK.k44, hK.k49, hK.k66, hK.k67, hK.k68, hK.k75, hK.k97, hK.k98, pUp1, pRow1, rUpA, Int.reduceEq, reduceIte, Int.reduceNeg, Int.reduceLE, Int.reduceLT, eq_self, true_and, and_true, and_self, forall_eq, Option.toList, List.cons_append, List.nil_append, List.append_nil]
  all_goals repeat' (first | with_reducible (refine And.intro ?_ ?_) | with_reducible (intro _))
  all_goals try first | contradiction | rfl | omega
  all_goals try (refine k_tell hK (by simp only [pUp1, pRow1, rUpA, Int.reduceEq, reduceIte, hF.f66_2]) (by decide) (fun z => absurd z (by decide)) (fun _ => ?_); refine vX12_force_28 _ ?_)
  all_goals refine ⟨(by first | rfl | rw [e2]), (by repeat (first | exact Out.refl | exact Out.F | refine Out.up ?_ (by decide) | refine Out.row ?_ (by decide))), ?_⟩
  all_goals (
      dsimp only [InvM]
      refine inv_build h ?_ ?_ ?_ ?_ ?_ ?_ ?_ ?_ ?_ ?_ ?_ ?_ ?_ ?_ ?_
      · repeat (first | exact h.1.2.1 | refine FS.up ?_ (by decide +kernel))
      · repeat (first | exact h.1.2.2.2.1 | refine ES.up ?_ (by decide +kernel) | refine ES.row ?_ (by decide +kernel))
      · intro a ha; repeat (first | rfl | rw [pUp_an (by omega)] | rw [pRow_ne (by omega)])
      · intro a ha; repeat (first | rfl | rw [pUp_an (by omega)] | rw [pRow_ne (by omega)])
      · intro a ha; repeat (first | rfl | rw [pUp_an (by omega)] | rw [pRow_ne (by omega)])
      all_goals try simp only [pUp1, pRow1, rUpA, Int.reduceEq, reduceIte]
      all_goals first | exact h.2.1 | exact h.2.2.1 | exact h.2.2.2.1 | exact h.2.2.2.2.1 | exact h.2.2.2.2.2.1 | exact h.2.2.2.2.2.2.1 | exact h.2.2.2.2.2.2.2.1 | exact h.2.2.2.2.2.2.2.2.1 | exact h.2.2.2.2.2.2.2.2.2.1 | exact h.2.2.2.2.2.2.2.2.2.2 | skip)
  all_goals first | exact ⟨rfl, h7⟩ | exact ⟨trivial, h7⟩ | exact ⟨rfl, h7.up (by decide)⟩ | exact ⟨trivial, h7.up (by decide)⟩ | exact hk.chg hl (fun j j0 => rUp_n (by omega)) ⟨hR.out (by decide), hC⟩ hT (hk.seen (by decide) (by decide)) (rUp_n (by decide)) ⟨rUp_s, by omega, by omega⟩
theorem two_terms {LR : tLR} {l : Launch} {G : pG} (hL : LOk LR) {x1 x2 : Int} : Pair LR l G 1 mX11_terms (0, 0) 1 mX12_terms (0, 0) [(0, x1), (0, x2)] := by
  intro n K F E h
  have hK := h.KS
  have hF := h.FS
  have hl : ∀ t r r', (∀ j, 0 ≤ j → j < 900 → r' j = r j) → LawAt LR K F E t r → LawAt LR K F E t r' := fun t r r' e q => q.row hL e
  have hk := h.2.1
  have hR := hk.1.1
  have hC := hk.1.2
  have hT := hk.2.1
  have hS := hk.2.2.1
  have hW := hk.2.2.2.1
  have hI := hk.2.2.2.2
  have hx0 := h.1.2.2.2.2 0 (by decide)
  have hx1 := h.1.2.2.2.2 1 (by decide)
  have k0 := hx0.2.1
  have k1 := hx1.2.1
  have a0 : E (pRef G.1 (G.2.2.2.2 0)) 0 = 1 := hx0.2.2.1
  have a1 : E (pRef G.1 (G.2.2.2.2 0)) 1 = 0 := hx0.2.2.2.1
  have a2 : E (pRef G.1 (G.2.2.2.2 0)) 2 = 0 := hx0.2.2.2.2
  have b0 : E (pRef G.1 (G.2.2.2.2 1)) 0 = 999 := hx1.2.2.1
  have b1 : E (pRef G.1 (G.2.2.2.2 1)) 1 = 10 := hx1.2.2.2.1
  have b2 : E (pRef G.1 (G.2.2.2.2 1)) 2 = 9 := hx1.2.2.2.2
  have h7 := h.2.2.2.2.2.2.2.1.2
  have t1 := hT.1
  have t2 : (1 ≤ E 4 0 ∧ E 4 0 ≤ 999) ∧ (0 ≤ E 4 1 ∧ E 4 1 ≤ 10) ∧ (0 ≤ E 4 2 ∧ E 4 2 ≤ 9) := hT.2
  rcases (show x1 < 0 ∨ 3 ≤ x1 ∨ x1 = 0 ∨ x1 = 1 ∨ x1 = 2 by omega) with q | q | q | q | q
  any_goals subst q
  all_goals refine vX11_terms_0 0 _ _ ?_
  all_goals simp only [k0, k1, a0, a1, a2, b0, b1, b2, Int.reduceAdd, false_implies, true_implies, not_true_eq_false, not_false_eq_true, implies_true, hF.f0_0, hF.f0_9, hF.f0_11, hF.f0_12, hF.f0_13, hF.f1_0, hF.f1_1, hF.f1_2, hF.f1_3, hF.f2_0, hF.f22_0, hF.f41_0, hF.f41_2, hF.f66_2, hF.f66_3, hF.f66_12, hF.f66_58, hF.f66_60, hK.k0, hK.k1, hK.k2, hK.k3, hK.k4, hK.k5, hK.k6, hK.k22, hK.k23, hK.k41, hK.k42, hK.k43, hK.k44, hK.k49, hK.k66, hK.k67, hK.k68, hK.k75, hK.k97, hK.k98, pUp1, pRow1, rUpA, Int.reduceEq, reduceIte, Int.reduceNeg, Int.reduceLE, Int.reduceLT, eq_self, true_and, and_true, and_self, forall_eq, Option.toList, List.cons_append, List.nil_append, List.append_nil]
  all_goals repeat' (first | with_reducible (refine And.intro ?_ ?_) | with_reducible (intro _))
  all_goals try first | contradiction | rfl | omega
  all_goals refine ⟨_, rfl, (by repeat (first | exact Out.refl | exact Out.F | refine Out.up ?_ (by decide) | refine Out.row ?_ (by decide))), hK, vX12_terms_0 66 _ _ ?_⟩
  all_goals simp only [k0, k1, a0, a1, a2, b0, b1, b2, Int.reduceAdd, false_implies, true_implies, not_true_eq_false, not_false_eq_true, implies_true, hF.f0_0, hF.f0_9, hF.f0_11, hF.f0_12, hF.f0_13, hF.f1_0, hF.f1_1, hF.f1_2, hF.f1_3, hF.f2_0, hF.f22_0, hF.f41_0, hF.f41_2, hF.f66_2, hF.f66_3, hF.f66_12, hF.f66_58, hF.f66_60, hK.k0, hK.k1, hK.k2, hK.k3, hK.k4, hK.k5, hK.k6, hK.k22, hK.k23, hK.k41, hK.k42, hK.k43, hK.k44, hK.k49, hK.k66, hK.k67, hK.k68, hK.k75, hK.k97, hK.k98, pUp1, pRow1, rUpA, Int.reduceEq, reduceIte, Int.reduceNeg, Int.reduceLE, Int.reduceLT, eq_self, true_and, and_true, and_self, forall_eq, Option.toList, List.cons_append, List.nil_append, List.append_nil]
  all_goals repeat' (first | with_reducible (refine And.intro ?_ ?_) | with_reducible (intro _))
  all_goals try first | contradiction | rfl | omega
  all_goals try (refine k_tell hK (by simp only [pUp1, pRow1, rUpA, Int.reduceEq, reduceIte, hF.f66_2]) (by decide) (fun z => absurd z (by decide)) (fun _ => ?_); refine vX12_terms_81 _ ?_)
  all_goals refine ⟨(by first | rfl | rw [t1.1] | rw [t1.2.1] | rw [t1.2.2]), (by repeat (first | exact Out.refl | exact Out.F | refine Out.up ?_ (by decide) | refine Out.row ?_ (by decide))), ?_⟩
  all_goals (
      dsimp only [InvM]
      refine inv_build h ?_ ?_ ?_ ?_ ?_ ?_ ?_ ?_ ?_ ?_ ?_ ?_ ?_ ?_ ?_
      · repeat (first | exact h.1.2.1 | refine FS.up ?_ (by decide +kernel))
      · repeat (first | exact h.1.2.2.2.1 | refine ES.up ?_ (by decide +kernel) | refine ES.row ?_ (by decide +kernel))
      · intro a ha; repeat (first | rfl | rw [pUp_an (by omega)] | rw [pRow_ne (by omega)])
      · intro a ha; repeat (first | rfl | rw [pUp_an (by omega)] | rw [pRow_ne (by omega)])
      · intro a ha; repeat (first | rfl | rw [pUp_an (by omega)] | rw [pRow_ne (by omega)])
      all_goals try simp only [pUp1, pRow1, rUpA, Int.reduceEq, reduceIte]
      all_goals first | exact h.2.1 | exact h.2.2.1 | exact h.2.2.2.1 | exact h.2.2.2.2.1 | exact h.2.2.2.2.2.1 | exact h.2.2.2.2.2.2.1 | exact h.2.2.2.2.2.2.2.1 | exact h.2.2.2.2.2.2.2.2.1 | exact h.2.2.2.2.2.2.2.2.2.1 | exact h.2.2.2.2.2.2.2.2.2.2 | skip)
  all_goals first | exact ⟨rfl, h7⟩ | exact ⟨trivial, h7⟩ | exact ⟨rfl, h7.up (by decide)⟩ | exact ⟨trivial, h7.up (by decide)⟩ | exact hk.chg hl (fun j j0 => rUp_n (by omega)) ⟨hR.out (by decide), hC⟩ (by refine ⟨?_, ?_⟩ <;> simp only [TInv, rUpA, Int.reduceEq, reduceIte, true_and, and_true] <;> omega) (hk.seen (by decide) (by decide)) (rUp_n (by decide)) ⟨(rUp_n (by decide)).trans hI.1, hI.2⟩
