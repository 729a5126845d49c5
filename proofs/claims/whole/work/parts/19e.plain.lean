/-! the pair seen (gen_pairs.py) -/
theorem KR.add {LA : Int → (Int → Int) → Prop} {cA cT c1 c2 cL g : Int → Int} {s l f x y : Int} (h : KR LA cA cT c1 c2 cL s l f g) (hl : ∀ t r r', (∀ j, 0 ≤ j → j < 900 → r' j = r j) → LA t r → LA t r') (hs : s < 6) (hx : 0 ≤ x ∧ x ≤ 2) (hy : 0 ≤ y ∧ y ≤ 9) :
    KR LA cA cT (rUp c1 s x) (rUp c2 s y) cL (s + 1) l f (rUp (rUp (rUp g (123 + 2 * s) x) (123 + 2 * s + 1) y) 0 (s + 1)) := by
  obtain ⟨h2, h3, h4, h5⟩ := h.2.2.1
  have o : ∀ j, (j < 123 ∨ 135 ≤ j) → j ≠ 0 → rUp (rUp (rUp g (123 + 2 * s) x) (123 + 2 * s + 1) y) 0 (s + 1) j = g j := fun j a b => by
    rw [rUp_n (by omega), rUp_n (by omega), rUp_n (by omega)]
  refine h.chg hl (fun j j0 => o j (by omega) (by omega)) ⟨((h.1.1.out (by omega)).out (by omega)).out (by omega), h.1.2⟩ ⟨⟨(o 3 (by omega) (by omega)).trans h.2.1.1.1, (o 4 (by omega) (by omega)).trans h.2.1.1.2.1, (o 5 (by omega) (by omega)).trans h.2.1.1.2.2⟩, h.2.1.2⟩ ⟨rUp_s, by omega, by omega, fun k k0 k1 => ?_⟩ (o 1 (by omega) (by omega)) ⟨(o 2 (by omega) (by omega)).trans h.2.2.2.2.1, h.2.2.2.2.2⟩
  by_cases e : k = s
  · subst e
    rw [rUp_s, rUp_s, rUp_n (by omega), rUp_n (by omega), rUp_s, rUp_n (by omega)]
    refine ⟨rfl, ?_, hx, hy⟩
    rw [show (124 : Int) + 2 * k = 123 + 2 * k + 1 by omega]
    exact rUp_s
  · rw [rUp_n (r := c1) e, rUp_n (r := c2) e, rUp_n (by omega), rUp_n (by omega), rUp_n (by omega), rUp_n (by omega), rUp_n (by omega), rUp_n (by omega)]
    exact h5 k k0 (by omega)
theorem two_seen {LR : tLR} {l : Launch} {G : pG} (hL : LOk LR) {x1 x2 : Int} : Pair LR l G 1 mX11_seen (0, 0) 1 mX12_seen (0, 0) [(0, x1), (0, x2)] := by
  intro n K F E h
  have hK := h.KS
  have hF := h.FS
  have hl : ∀ t r r', (∀ j, 0 ≤ j → j < 900 → r' j = r j) → LawAt LR K F E t r → LawAt LR K F E t r' := fun t r r' e q => q.row hL e
  have hk := h.2.1
  have hR := hk.1.1
  have hC := hk.1.2
  have hT := hk.2.1
  have hS := hk.2.2.1
  have hW := hk.2.2.2.1
  have hI := hk.2.2.2.2
  have h7 := h.2.2.2.2.2.2.2.1.2
  have e0 := hS.1
  have s1 := hS.2.1
  have s2 := hS.2.2.1
  have n1 : ((0 : Int) = 123 + 2 * F 1 4) = False := eq_false (by omega)
  have n2 : ((0 : Int) = 123 + 2 * F 1 4 + 1) = False := eq_false (by omega)
  all_goals refine vX11_seen_0 0 _ _ ?_
  all_goals simp only [e0, n1, n2, hF.f0_0, hF.f0_9, hF.f0_11, hF.f0_12, hF.f0_13, hF.f1_0, hF.f1_1, hF.f1_2, hF.f1_3, hF.f2_0, hF.f22_0, hF.f41_0, hF.f41_2, hF.f66_2, hF.f66_3, hF.f66_12, hF.f66_58, hF.f66_60, hK.k0, hK.k1, hK.k2, hK.k3, hK.k4, hK.k5, hK.k6, hK.k22, hK.k23, hK.k41, hK.k42, hK.k43, hK.k44, hK.k49, hK.k66, hK.k67, hK.k68, hK.k75, hK.k97, hK.k98, pUp1, pRow1, rUpA, Int.reduceEq, reduceIte, Int.reduceNeg, Int.reduceLE, Int.reduceLT, eq_self, true_and, and_true, and_self, forall_eq, Option.toList, List.cons_append, List.nil_append, List.append_nil]
  all_goals repeat' (first | with_reducible (refine And.intro ?_ ?_) | with_reducible (intro _))
  all_goals try first | contradiction | rfl | omega
  all_goals refine ⟨_, rfl, (by repeat (first | exact Out.refl | exact Out.F | refine Out.up ?_ (by decide) | refine Out.row ?_ (by decide))), hK, vX12_seen_0 66 _ _ ?_⟩
  all_goals simp only [e0, n1, n2, hF.f0_0, hF.f0_9, hF.f0_11, hF.f0_12, hF.f0_13, hF.f1_0, hF.f1_1, hF.f1_2, hF.f1_3, hF.f2_0, hF.f22_0, hF.f41_0, hF.f41_2, hF.f66_2, hF.f66_3, hF.f66_12, hF.f66_58, hF.f66_60, hK.k0, hK.k1, hK.k2, hK.k3, hK.k4, hK.k5, hK.k6, hK.k22, hK.k23, hK.k41, hK.k42, hK.k43, hK.k44, hK.k49, hK.k66, hK.k67, hK.k68, hK.k75, hK.k97, hK.k98, pUp1, pRow1, rUpA, Int.reduceEq, reduceIte, Int.reduceNeg, Int.reduceLE, Int.reduceLT, eq_self, true_and, and_true, and_self, forall_eq, Option.toList, List.cons_append, List.nil_append, List.append_nil]
  all_goals repeat' (first | with_reducible (refine And.intro ?_ ?_) | with_reducible (intro _))
  all_goals try first | contradiction | rfl | omega
  all_goals try (refine k_tell hK (by simp only [pUp1, pRow1, rUpA, Int.reduceEq, reduceIte, hF.f66_2]) (by decide) (fun z => absurd z (by decide)) (fun _ => ?_); (first | refine vX12_seen_34 _ ?_ | refine vX12_seen_54 _ ?_ | refine vX12_seen_98 _ ?_))
  all_goals try (refine k_tell hK (by simp only [pUp1, pRow1, rUpA, Int.reduceEq, reduceIte, hF.f66_2]) (by omega) (fun _ => ?_) (fun z => absurd z (by omega)); (first | refine vX12_seen_34 _ ?_ | refine vX12_seen_54 _ ?_ | refine vX12_seen_98 _ ?_))
  all_goals refine ⟨rfl, (by repeat (first | exact Out.refl | exact Out.F | refine Out.up ?_ (by decide) | refine Out.row ?_ (by decide))), ?_⟩
  all_goals (
      dsimp only [InvM]
      refine inv_build h ?_ ?_ ?_ ?_ ?_ ?_ ?_ ?_ ?_ ?_ ?_ ?_ ?_ ?_ ?_
      · repeat (first | exact h.1.2.1 | refine FS.up ?_ (by decide +kernel))
      · repeat (first | exact h.1.2.2.2.1 | refine ES.up ?_ (by decide +kernel) | refine ES.row ?_ (by decide +kernel))
      · intro a ha; repeat (first | rfl | rw [pUp_an (by omega)] | rw [pRow_ne (by omega)])
      · intro a ha; repeat (first | rfl | rw [pUp_an (by omega)] | rw [pRow_ne (by omega)])
      · intro a ha; repeat (first | rfl | rw [pUp_an (by omega)] | rw [pRow_ne (by omega)])
      all_goals try simp only [pUp1, pRow1, rUpA, Int.reduceEq, reduceIte]
      all_goals first | exact h.2.1 | exact h.2.2.1 | exact h.2.2.2.1 | exact h.2.2.2.2.1 | exact h.2.2.2.2.2.1 | exact h.2.2.2.2.2.2.1 | exact h.2.2.2.2.2.2.2.1 | exact h.2.2.2.2.2.2.2.2.1 | exact h.2.2.2.2.2.2.2.2.2.1 | exact h.2.2.2.2.2.2.2.2.2.2 | skip)
  all_goals first | exact ⟨rfl, h7⟩ | exact ⟨trivial, h7⟩ | exact ⟨rfl, h7.up (by decide)⟩ | exact ⟨trivial, h7.up (by decide)⟩ | exact hk.add hl (by omega) (by omega) (by omega)
