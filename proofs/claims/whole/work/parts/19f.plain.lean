/-! the pair drawn (gen_pairs.py) -/
theorem two_drawn {LR : tLR} {l : Launch} {G : pG} {x1 x2 : Int} : Pair LR l G 1 mX11_drawn (0, 0) 2 mX12_drawn (0, 0) [(0, x1), (0, x2)] := by
  intro n K F E h
  have hK := h.KS
  have hF := h.FS
  have hd := h.2.2.2.2.2.2.2.2.2.1
  rcases hd with ⟨d1, d2⟩ | ⟨d1, d2, d3, d4, d5⟩
  all_goals refine vX11_drawn_0 0 _ _ ?_
  all_goals simp only [hF.f0_6, hF.f18_0, hF.f66_73, hK.k18, hK.k19, hK.k104, hF.f0_0, hF.f0_9, hF.f0_11, hF.f0_12, hF.f0_13, hF.f1_0, hF.f1_1, hF.f1_2, hF.f1_3, hF.f2_0, hF.f22_0, hF.f41_0, hF.f41_2, hF.f66_2, hF.f66_3, hF.f66_12, hF.f66_58, hF.f66_60, hK.k0, hK.k1, hK.k2, hK.k3, hK.k4, hK.k5, hK.k6, hK.k22, hK.k23, hK.k41, hK.k42, hK.k43, hK.k44, hK.k49, hK.k66, hK.k67, hK.k68, hK.k75, hK.k97, hK.k98, pUp1, pRow1, rUpA, Int.reduceEq, reduceIte, Int.reduceNeg, Int.reduceLE, Int.reduceLT, eq_self, true_and, and_true, and_self, forall_eq, Option.toList, List.cons_append, List.nil_append, List.append_nil]
  all_goals repeat' (first | with_reducible (refine And.intro ?_ ?_) | with_reducible (intro _))
  all_goals try first | contradiction | rfl | omega
  all_goals refine ⟨_, rfl, (by repeat (first | exact Out.refl | exact Out.F | refine Out.up ?_ (by decide) | refine Out.row ?_ (by decide))), hK, vX12_drawn_0 66 _ _ ?_⟩
  all_goals simp only [hF.f0_6, hF.f18_0, hF.f66_73, hK.k18, hK.k19, hK.k104, hF.f0_0, hF.f0_9, hF.f0_11, hF.f0_12, hF.f0_13, hF.f1_0, hF.f1_1, hF.f1_2, hF.f1_3, hF.f2_0, hF.f22_0, hF.f41_0, hF.f41_2, hF.f66_2, hF.f66_3, hF.f66_12, hF.f66_58, hF.f66_60, hK.k0, hK.k1, hK.k2, hK.k3, hK.k4, hK.k5, hK.k6, hK.k22, hK.k23, hK.k41, hK.k42, hK.k43, hK.k44, hK.k49, hK.k66, hK.k67, hK.k68, hK.k75, hK.k97, hK.k98, pUp1, pRow1, rUpA, Int.reduceEq, reduceIte, Int.reduceNeg, Int.reduceLE, Int.reduceLT, eq_self, true_and, and_true, and_self, forall_eq, Option.toList, List.cons_append, List.nil_append, List.append_nil]
  all_goals repeat' (first | with_reducible (refine And.intro ?_ ?_) | with_reducible (intro _))
  all_goals try first | contradiction | rfl | omega
  all_goals refine ⟨(by first | rfl | (rw [d4 x1 (by omega) (by omega)]; congr 3; omega) | (rw [d5 x1 (by omega) (by omega)])), (by repeat (first | exact Out.refl | exact Out.F | refine Out.up ?_ (by decide) | refine Out.row ?_ (by decide))), ?_⟩
  all_goals exact h.zero
