/-! the pair count (gen_pairs.py) -/
theorem two_count {LR : tLR} {l : Launch} {G : pG} {x1 : Int} : Pair LR l G 1 mX11_count (0, 0) 1 mX12_count (0, 0) [(0, x1)] := by
  intro n K F E h
  have hK := h.KS
  have hF := h.FS
  have hk := h.2.1
  have v0 : E 68 6 = E 3 0 := hk.1.1 0 (by decide) (by decide)
  have v1 : E 68 7 = E 3 1 := hk.1.1 1 (by decide) (by decide)
  have v2 : E 68 8 = E 3 2 := hk.1.1 2 (by decide) (by decide)
  have v3 := hk.2.2.1.1
  have v4 := hk.2.2.2.1.1
  have v5 := h.2.2.2.2.1.2.2.1
  have v6 := h.2.2.2.2.2.1.1
  obtain ⟨v7, v8, v9, v10, v11⟩ := h.2.2.2.2.2.2.2.1.2
  have v12 := hk.2.2.2.2.1
  obtain ⟨v13, v14, v15⟩ := hk.2.1.1
  have v16 := h.2.2.2.2.2.2.1.1.1
  have v17 := h.2.2.2.2.2.2.1.2.1.1
  rcases (show (x1 < 0 ∨ 17 < x1) ∨ x1 = 0 ∨ x1 = 1 ∨ x1 = 2 ∨ x1 = 3 ∨ x1 = 4 ∨ x1 = 5 ∨ x1 = 6 ∨ x1 = 7 ∨ x1 = 8 ∨ x1 = 9 ∨ x1 = 10 ∨ x1 = 11 ∨ x1 = 12 ∨ x1 = 13 ∨ x1 = 14 ∨ x1 = 15 ∨ x1 = 16 ∨ x1 = 17 by omega) with q | q | q | q | q | q | q | q | q | q | q | q | q | q | q | q | q | q | q
  any_goals subst q
  all_goals refine vX11_count_0 0 _ ?_
  all_goals try simp only [hF.f0_3, hK.k10, Int.reduceAdd, Int.reduceSub, false_implies, true_implies, not_true_eq_false, not_false_eq_true, implies_true, or_self, false_and, and_false, hF.f0_0, hF.f0_9, hF.f0_11, hF.f0_12, hF.f0_13, hF.f1_0, hF.f1_1, hF.f1_2, hF.f1_3, hF.f2_0, hF.f22_0, hF.f41_0, hF.f41_2, hF.f66_2, hF.f66_3, hF.f66_12, hF.f66_58, hF.f66_60, hK.k0, hK.k1, hK.k2, hK.k3, hK.k4, hK.k5, hK.k6, hK.k22, hK.k23, hK.k41, hK.k42, hK.k43, hK.k44, hK.k49, hK.k66, hK.k67, hK.k68, hK.k75, hK.k97, hK.k98, pUp1, pRow1, rUpA, Int.reduceEq, reduceIte, Int.reduceNeg, Int.reduceLE, Int.reduceLT, eq_self, true_and, and_true, and_self, forall_eq, Option.toList, List.cons_append, List.nil_append, List.append_nil]
  all_goals repeat' (first | with_reducible (refine And.intro ?_ ?_) | with_reducible (intro _))
  all_goals try first | contradiction | omega
  all_goals first | refine vX11_count_88 0 ?_ | refine vX11_count_99 0 ?_ | refine vX11_count_110 0 ?_ | refine vX11_count_121 0 ?_ | refine vX11_count_129 0 ?_ | refine vX11_count_137 0 ?_ | refine vX11_count_145 0 ?_ | refine vX11_count_153 0 ?_ | refine vX11_count_161 0 ?_ | refine vX11_count_169 0 ?_ | refine vX11_count_177 0 _ ?_
  all_goals try simp only [hF.f0_3, hK.k10, Int.reduceAdd, Int.reduceSub, false_implies, true_implies, not_true_eq_false, not_false_eq_true, implies_true, or_self, false_and, and_false, hF.f0_0, hF.f0_9, hF.f0_11, hF.f0_12, hF.f0_13, hF.f1_0, hF.f1_1, hF.f1_2, hF.f1_3, hF.f2_0, hF.f22_0, hF.f41_0, hF.f41_2, hF.f66_2, hF.f66_3, hF.f66_12, hF.f66_58, hF.f66_60, hK.k0, hK.k1, hK.k2, hK.k3, hK.k4, hK.k5, hK.k6, hK.k22, hK.k23, hK.k41, hK.k42, hK.k43, hK.k44, hK.k49, hK.k66, hK.k67, hK.k68, hK.k75, hK.k97, hK.k98, pUp1, pRow1, rUpA, Int.reduceEq, reduceIte, Int.reduceNeg, Int.reduceLE, Int.reduceLT, eq_self, true_and, and_true, and_self, forall_eq, Option.toList, List.cons_append, List.nil_append, List.append_nil]
  all_goals repeat' (first | with_reducible (refine And.intro ?_ ?_) | with_reducible (intro _))
  all_goals try first | contradiction | rfl | omega
  all_goals refine ⟨_, rfl, Out.refl, hK, vX12_count_0 66 _ ?_⟩
  all_goals try simp only [hF.f0_3, hK.k10, Int.reduceAdd, Int.reduceSub, false_implies, true_implies, not_true_eq_false, not_false_eq_true, implies_true, or_self, false_and, and_false, hF.f0_0, hF.f0_9, hF.f0_11, hF.f0_12, hF.f0_13, hF.f1_0, hF.f1_1, hF.f1_2, hF.f1_3, hF.f2_0, hF.f22_0, hF.f41_0, hF.f41_2, hF.f66_2, hF.f66_3, hF.f66_12, hF.f66_58, hF.f66_60, hK.k0, hK.k1, hK.k2, hK.k3, hK.k4, hK.k5, hK.k6, hK.k22, hK.k23, hK.k41, hK.k42, hK.k43, hK.k44, hK.k49, hK.k66, hK.k67, hK.k68, hK.k75, hK.k97, hK.k98, pUp1, pRow1, rUpA, Int.reduceEq, reduceIte, Int.reduceNeg, Int.reduceLE, Int.reduceLT, eq_self, true_and, and_true, and_self, forall_eq, Option.toList, List.cons_append, List.nil_append, List.append_nil]
  all_goals repeat' (first | with_reducible (refine And.intro ?_ ?_) | with_reducible (intro _))
  all_goals try first | contradiction | omega
  all_goals first | refine vX12_count_92 66 ?_ | refine vX12_count_100 66 ?_ | refine vX12_count_108 66 ?_ | refine vX12_count_116 66 ?_ | refine vX12_count_123 66 ?_ | refine vX12_count_130 66 ?_ | refine vX12_count_135 66 ?_ | refine vX12_count_140 66 ?_ | refine vX12_count_147 66 ?_ | refine vX12_count_154 66 ?_ | refine vX12_count_161 66 ?_ | refine vX12_count_168 66 ?_ | refine vX12_count_176 66 ?_ | refine vX12_count_183 66 ?_ | refine vX12_count_188 66 ?_ | refine vX12_count_193 66 _ ?_
  all_goals try simp only [hF.f0_3, hK.k10, Int.reduceAdd, Int.reduceSub, false_implies, true_implies, not_true_eq_false, not_false_eq_true, implies_true, or_self, false_and, and_false, hF.f0_0, hF.f0_9, hF.f0_11, hF.f0_12, hF.f0_13, hF.f1_0, hF.f1_1, hF.f1_2, hF.f1_3, hF.f2_0, hF.f22_0, hF.f41_0, hF.f41_2, hF.f66_2, hF.f66_3, hF.f66_12, hF.f66_58, hF.f66_60, hK.k0, hK.k1, hK.k2, hK.k3, hK.k4, hK.k5, hK.k6, hK.k22, hK.k23, hK.k41, hK.k42, hK.k43, hK.k44, hK.k49, hK.k66, hK.k67, hK.k68, hK.k75, hK.k97, hK.k98, pUp1, pRow1, rUpA, Int.reduceEq, reduceIte, Int.reduceNeg, Int.reduceLE, Int.reduceLT, eq_self, true_and, and_true, and_self, forall_eq, Option.toList, List.cons_append, List.nil_append, List.append_nil]
  all_goals repeat' (first | with_reducible (refine And.intro ?_ ?_) | with_reducible (intro _))
  all_goals try first | contradiction | rfl | omega
  all_goals refine ⟨(by first | rfl | simp only [v0, v1, v2, v3, v4, v5, v6, v7, v8, v9, v10, v11, v12, v13, v14, v15, v16, v17]), Out.F, h.zero⟩
