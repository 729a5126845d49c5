/-! PAIRS without loops (gen_pairs.py) -/
theorem rUpA {r : Int → Int} {k v j : Int} : rUp r k v j = if j = k then v else r j := rfl
theorem inv_build {LR : tLR} {G : pG} {n : Nat} {K : Int → Nat × Nat} {F E F' E' : Int → Int → Int} (h : Inv LR G n K F E) (hF : FS F') (hE : ES E') (hx : ∀ a, a < 0 → E' a = E a) (f3 : ∀ a, 105 ≤ a → F' a = F a) (e3 : ∀ a, 105 ≤ a → E' a = E a)
    (c1 : KR (LawAt LR K F E) (E' 3) (E' 4) (E' 5) (E' 6) (E' 7) (F' 1 4) (F' 1 6) (F' 1 7) (E' 68))
    (c2 : ImR (LawAt LR K F E) (E' 9 0) (E' 70 0) (E' 54) (E' 55) (E' 56) (E' 57) (E' 58) (F' 52 4) (F' 52 6) (F' 52 7) (fun j => E' 69 j))
    (c3 : ImR (LawAt LR K F E) (E' 9 1) (E' 70 1) (E' 61) (E' 62) (E' 63) (E' 64) (E' 65) (F' 59 4) (F' 59 6) (F' 59 7) (fun j => E' 69 (5535 + j)))
    (c4 : UR (F' 10 2) (F' 10 3) (E' 11) (E' 12) (F' 66 8) (E' 71) (E' 72))
    (c5 : TpR (F' 22 1) (E' 23) (F' 66 13) (E' 75))
    (c6 : LtR (F' 41 1) (E' 42) (F' 41 3) (E' 43) (F' 41 4) (F' 66 59) (E' 97) (F' 66 61) (E' 98) (F' 66 62))
    (c7 : F' 66 1 = F' 0 16 ∧ RfR (E' 49) (E' 67)) (c8 : F' 66 11 = F' 0 18 ∧ F' 66 18 = F' 0 17 ∧ F' 66 70 = F' 44 5)
    (c9 : DrR (F' 0 7) (E' 19) (F' 66 74) (E' 104)) (c10 : F' 66 20 = 0) : Inv LR G n K F' E' := by
  have h5' : XS G K E' := by
    intro w hw
    obtain ⟨a, b⟩ := h.1.2.2.2.2 w hw
    rw [hx _ a]
    exact ⟨a, b⟩
  have hL : LawAt LR K F' E' = LawAt LR K F E := LawAt.keepP f3 e3
  refine ⟨⟨h.1.1, hF, h.1.2.2.1, hE, h5'⟩, ?_⟩
  rw [hL]
  exact ⟨c1, c2, c3, c4, c5, c6, c7, c8, c9, c10⟩
/-- what tell answers and does -/
theorem k_tell {l : Launch} {G : pG} {bg : Nat × Nat} {n : Nat} {K : Int → Nat × Nat} {F E : Int → Int → Int} {Q : Option pV → pM → Prop} {c : Int} (hK : KS K) (hF : F 66 2 = 67) (hc : -7 < c)
    (h0 : 0 ≤ c → Q (some (0, c)) (n, K, pUp F 66 1 0, E)) (h1 : c < 0 → Q (some (0, c)) (n, K, pUp F 66 1 c, pUp E 67 (-c) (w32 (E 67 (-c) + 1)))) : PC l G 0 mX12_tell bg [(2, 66), (0, c)] (n, K, F, E) Q := by
  refine vX12_tell_0 66 c ?_
  rw [hF, hK.k66, hK.k67]
  constructor
  · intro q
    refine ⟨rfl, fun F1 e => ⟨fun _ => ?_, fun z => absurd q z⟩⟩
    subst e
    exact h0 q
  · intro q
    refine ⟨rfl, fun F1 e => ⟨fun z => absurd z q, fun _ => ⟨by omega, rfl, ⟨by omega, ?_⟩, by decide, fun E2 e2 => ?_⟩⟩⟩
    · show -c < 7
      omega
    · subst e
      subst e2
      exact h1 (by omega)
/-- a refusal on both sides -/
theorem RfR.up {c m : Int → Int} {i j : Int} (h : RfR c m) (hij : (i = 0 ∧ j = 1) ∨ (i = 1 ∧ j = 2) ∨ (i = 2 ∧ j = 3) ∨ (i = 3 ∧ j = 5) ∨ (i = 4 ∧ j = 6)) : RfR (rUp c i (w32 (c i + 1))) (rUp m j (w32 (m j + 1))) := by
  obtain ⟨h1, h2, h3, h4, h5⟩ := h
  unfold RfR
  rcases hij with ⟨a, b⟩ | ⟨a, b⟩ | ⟨a, b⟩ | ⟨a, b⟩ | ⟨a, b⟩ <;> subst a <;> subst b <;> simp only [rUpA, Int.reduceEq, reduceIte] <;> refine ⟨?_, ?_, ?_, ?_, ?_⟩ <;> first | rw [h1] | rw [h2] | rw [h3] | rw [h4] | rw [h5]
theorem two_operator {LR : tLR} {l : Launch} {G : pG} {x1 x2 : Int} : Pair LR l G 1 mX11_operator (0, 0) 2 mX12_operator (0, 0) [(0, x1), (0, x2)] := by
  intro n K F E h
  have hK := h.KS
  have hF := h.FS
  have hR := h.2.1.1.1
  have hC := h.2.1.1.2
  have r0 := hR 0 (by decide) (by decide)
  have r1 : (E 68) 6 = E 3 0 := r0
  have hC0 := hC.1
  have hr := hR (12 + x1 * 6 + x2)
  all_goals refine vX11_operator_0 0 _ _ ?_
  all_goals simp only [hF.f0_0, hF.f0_9, hF.f0_11, hF.f0_12, hF.f0_13, hF.f1_0, hF.f1_1, hF.f1_2, hF.f1_3, hF.f2_0, hF.f22_0, hF.f41_0, hF.f41_2, hF.f66_2, hF.f66_3, hF.f66_12, hF.f66_58, hF.f66_60, hK.k0, hK.k1, hK.k2, hK.k3, hK.k4, hK.k5, hK.k6, hK.k22, hK.k23, hK.k41, hK.k42, hK.k43, hK.k44, hK.k49, hK.k66, hK.k67, hK.k68, hK.k75, hK.k97, hK.k98, pUp1, pRow1, rUpA, Int.reduceEq, reduceIte, Int.reduceNeg, Int.reduceLE, Int.reduceLT, eq_self, true_and, and_true, and_self, forall_eq, Option.toList, List.cons_append, List.nil_append, List.append_nil]
  all_goals repeat' (first | with_reducible (refine And.intro ?_ ?_) | with_reducible (intro _))
  all_goals try first | contradiction | rfl | omega
  all_goals refine ⟨_, rfl, (by repeat (first | exact Out.refl | exact Out.F | refine Out.up ?_ (by decide) | refine Out.row ?_ (by decide))), hK, vX12_operator_0 66 _ _ ?_⟩
  all_goals simp only [hF.f0_0, hF.f0_9, hF.f0_11, hF.f0_12, hF.f0_13, hF.f1_0, hF.f1_1, hF.f1_2, hF.f1_3, hF.f2_0, hF.f22_0, hF.f41_0, hF.f41_2, hF.f66_2, hF.f66_3, hF.f66_12, hF.f66_58, hF.f66_60, hK.k0, hK.k1, hK.k2, hK.k3, hK.k4, hK.k5, hK.k6, hK.k22, hK.k23, hK.k41, hK.k42, hK.k43, hK.k44, hK.k49, hK.k66, hK.k67, hK.k68, hK.k75, hK.k97, hK.k98, pUp1, pRow1, rUpA, Int.reduceEq, reduceIte, Int.reduceNeg, Int.reduceLE, Int.reduceLT, eq_self, true_and, and_true, and_self, forall_eq, Option.toList, List.cons_append, List.nil_append, List.append_nil]
  all_goals repeat' (first | with_reducible (refine And.intro ?_ ?_) | with_reducible (intro _))
  all_goals try first | contradiction | rfl | omega
  all_goals refine ⟨(by first | rfl | (rw [← hr (by omega) (by omega)]; congr 3; omega)), (by repeat (first | exact Out.refl | exact Out.F | refine Out.up ?_ (by decide) | refine Out.row ?_ (by decide))), ?_⟩
  all_goals exact h.zero
theorem two_relation {LR : tLR} {l : Launch} {G : pG} {x1 x2 : Int} : Pair LR l G 1 mX11_relation (0, 0) 2 mX12_relation (0, 0) [(0, x1), (0, x2)] := by
  intro n K F E h
  have hK := h.KS
  have hF := h.FS
  have hR := h.2.1.1.1
  have hC := h.2.1.1.2
  have ra := hR (3 + x1)
  have rb := hR (6 + x1)
  have rc := hR (9 + x1)
  all_goals refine vX11_relation_0 0 _ _ ?_
  all_goals simp only [hF.f0_0, hF.f0_9, hF.f0_11, hF.f0_12, hF.f0_13, hF.f1_0, hF.f1_1, hF.f1_2, hF.f1_3, hF.f2_0, hF.f22_0, hF.f41_0, hF.f41_2, hF.f66_2, hF.f66_3, hF.f66_12, hF.f66_58, hF.f66_60, hK.k0, hK.k1, hK.k2, hK.k3, hK.k4, hK.k5, hK.k6, hK.k22, hK.k23, hK.k41, hK.k42, hK.k43, hK.k44, hK.k49, hK.k66, hK.k67, hK.k68, hK.k75, hK.k97, hK.k98, pUp1, pRow1, rUpA, Int.reduceEq, reduceIte, Int.reduceNeg, Int.reduceLE, Int.reduceLT, eq_self, true_and, and_true, and_self, forall_eq, Option.toList, List.cons_append, List.nil_append, List.append_nil]
  all_goals repeat' (first | with_reducible (refine And.intro ?_ ?_) | with_reducible (intro _))
  all_goals try first | contradiction | rfl | omega
  all_goals refine ⟨_, rfl, (by repeat (first | exact Out.refl | exact Out.F | refine Out.up ?_ (by decide) | refine Out.row ?_ (by decide))), hK, vX12_relation_0 66 _ _ ?_⟩
  all_goals simp only [hF.f0_0, hF.f0_9, hF.f0_11, hF.f0_12, hF.f0_13, hF.f1_0, hF.f1_1, hF.f1_2, hF.f1_3, hF.f2_0, hF.f22_0, hF.f41_0, hF.f41_2, hF.f66_2, hF.f66_3, hF.f66_12, hF.f66_58, hF.f66_60, hK.k0, hK.k1, hK.k2, hK.k3, hK.k4, hK.k5, hK.k6, hK.k22, hK.k23, hK.k41, hK.k42, hK.k43, hK.k44, hK.k49, hK.k66, hK.k67, hK.k68, hK.k75, hK.k97, hK.k98, pUp1, pRow1, rUpA, Int.reduceEq, reduceIte, Int.reduceNeg, Int.reduceLE, Int.reduceLT, eq_self, true_and, and_true, and_self, forall_eq, Option.toList, List.cons_append, List.nil_append, List.append_nil]
  all_goals repeat' (first | with_reducible (refine And.intro ?_ ?_) | with_reducible (intro _))
  all_goals try first | contradiction | rfl | omega
  all_goals refine ⟨(by first | rfl | (rw [← ra (by omega) (by omega)]; congr 3; omega) | (rw [← rb (by omega) (by omega)]; congr 3; omega) | (rw [← rc (by omega) (by omega)]; congr 3; omega)), (by repeat (first | exact Out.refl | exact Out.F | refine Out.up ?_ (by decide) | refine Out.row ?_ (by decide))), ?_⟩
  all_goals exact h.zero
theorem two_tuple {LR : tLR} {l : Launch} {G : pG} {x1 x2 x3 : Int} : Pair LR l G 1 mX11_tuple (0, 0) 2 mX12_tuple (0, 0) [(0, x1), (0, x2), (0, x3)] := by
  intro n K F E h
  have hK := h.KS
  have hF := h.FS
  have hR := h.2.1.1.1
  have hC := h.2.1.1.2
  have hb := hC.2.2.2.1 x1
  have hn := hR (9 + x1)
  have hr := hR (36 + (x1 * 9 + x2) * 3 + x3)
  have hn' : 0 ≤ x1 → x1 < 3 → E 68 (15 + x1) = E 3 (9 + x1) := fun a b => by rw [← hn (by omega) (by omega)]; congr 1; omega
  all_goals refine vX11_tuple_0 0 _ _ _ ?_
  all_goals simp only [hF.f0_0, hF.f0_9, hF.f0_11, hF.f0_12, hF.f0_13, hF.f1_0, hF.f1_1, hF.f1_2, hF.f1_3, hF.f2_0, hF.f22_0, hF.f41_0, hF.f41_2, hF.f66_2, hF.f66_3, hF.f66_12, hF.f66_58, hF.f66_60, hK.k0, hK.k1, hK.k2, hK.k3, hK.k4, hK.k5, hK.k6, hK.k22, hK.k23, hK.k41, hK.k42, hK.k43, hK.k44, hK.k49, hK.k66, hK.k67, hK.k68, hK.k75, hK.k97, hK.k98, pUp1, pRow1, rUpA, Int.reduceEq, reduceIte, Int.reduceNeg, Int.reduceLE, Int.reduceLT, eq_self, true_and, and_true, and_self, forall_eq, Option.toList, List.cons_append, List.nil_append, List.append_nil]
  all_goals repeat' (first | with_reducible (refine And.intro ?_ ?_) | with_reducible (intro _))
  all_goals try first | contradiction | rfl | omega
  all_goals refine ⟨_, rfl, (by repeat (first | exact Out.refl | exact Out.F | refine Out.up ?_ (by decide) | refine Out.row ?_ (by decide))), hK, vX12_tuple_0 66 _ _ _ ?_⟩
  all_goals simp only [hF.f0_0, hF.f0_9, hF.f0_11, hF.f0_12, hF.f0_13, hF.f1_0, hF.f1_1, hF.f1_2, hF.f1_3, hF.f2_0, hF.f22_0, hF.f41_0, hF.f41_2, hF.f66_2, hF.f66_3, hF.f66_12, hF.f66_58, hF.f66_60, hK.k0, hK.k1, hK.k2, hK.k3, hK.k4, hK.k5, hK.k6, hK.k22, hK.k23, hK.k41, hK.k42, hK.k43, hK.k44, hK.k49, hK.k66, hK.k67, hK.k68, hK.k75, hK.k97, hK.k98, pUp1, pRow1, rUpA, Int.reduceEq, reduceIte, Int.reduceNeg, Int.reduceLE, Int.reduceLT, eq_self, true_and, and_true, and_self, forall_eq, Option.toList, List.cons_append, List.nil_append, List.append_nil]
  all_goals repeat' (first | with_reducible (refine And.intro ?_ ?_) | with_reducible (intro _))
  all_goals try first | contradiction | rfl | omega
  all_goals refine ⟨(by first | rfl | (rw [← hr (by omega) (by omega)]; congr 3; omega)), (by repeat (first | exact Out.refl | exact Out.F | refine Out.up ?_ (by decide) | refine Out.row ?_ (by decide))), ?_⟩
  all_goals exact h.zero
theorem two_result {LR : tLR} {l : Launch} {G : pG} {x1 x2 : Int} : Pair LR l G 1 mX11_result (0, 0) 2 mX12_result (0, 0) [(0, x1), (0, x2)] := by
  intro n K F E h
  have hK := h.KS
  have hF := h.FS
  have hL := h.2.2.2.2.2.2.1
  have e59 := hL.1.1
  have e61 := hL.2.1.1
  have b59 := hL.1.2
  have b61 := hL.2.1.2
  have e : x1 * 3 + x2 = 3 * x1 + x2 := by omega
  have hr : 0 ≤ x1 * 3 + x2 → x1 * 3 + x2 < 3 * F 41 1 → x1 * 3 + x2 < 297 → E 97 (3 * x1 + x2) = E 42 (x1 * 3 + x2) := e ▸ hL.2.2.2.1 (x1 * 3 + x2)
  all_goals refine vX11_result_0 0 _ _ ?_
  all_goals simp only [hF.f0_0, hF.f0_9, hF.f0_11, hF.f0_12, hF.f0_13, hF.f1_0, hF.f1_1, hF.f1_2, hF.f1_3, hF.f2_0, hF.f22_0, hF.f41_0, hF.f41_2, hF.f66_2, hF.f66_3, hF.f66_12, hF.f66_58, hF.f66_60, hK.k0, hK.k1, hK.k2, hK.k3, hK.k4, hK.k5, hK.k6, hK.k22, hK.k23, hK.k41, hK.k42, hK.k43, hK.k44, hK.k49, hK.k66, hK.k67, hK.k68, hK.k75, hK.k97, hK.k98, pUp1, pRow1, rUpA, Int.reduceEq, reduceIte, Int.reduceNeg, Int.reduceLE, Int.reduceLT, eq_self, true_and, and_true, and_self, forall_eq, Option.toList, List.cons_append, List.nil_append, List.append_nil]
  all_goals repeat' (first | with_reducible (refine And.intro ?_ ?_) | with_reducible (intro _))
  all_goals try first | contradiction | rfl | omega
  all_goals refine ⟨_, rfl, (by repeat (first | exact Out.refl | exact Out.F | refine Out.up ?_ (by decide) | refine Out.row ?_ (by decide))), hK, vX12_result_0 66 _ _ ?_⟩
  all_goals simp only [hF.f0_0, hF.f0_9, hF.f0_11, hF.f0_12, hF.f0_13, hF.f1_0, hF.f1_1, hF.f1_2, hF.f1_3, hF.f2_0, hF.f22_0, hF.f41_0, hF.f41_2, hF.f66_2, hF.f66_3, hF.f66_12, hF.f66_58, hF.f66_60, hK.k0, hK.k1, hK.k2, hK.k3, hK.k4, hK.k5, hK.k6, hK.k22, hK.k23, hK.k41, hK.k42, hK.k43, hK.k44, hK.k49, hK.k66, hK.k67, hK.k68, hK.k75, hK.k97, hK.k98, pUp1, pRow1, rUpA, Int.reduceEq, reduceIte, Int.reduceNeg, Int.reduceLE, Int.reduceLT, eq_self, true_and, and_true, and_self, forall_eq, Option.toList, List.cons_append, List.nil_append, List.append_nil]
  all_goals repeat' (first | with_reducible (refine And.intro ?_ ?_) | with_reducible (intro _))
  all_goals try first | contradiction | rfl | omega
  all_goals try (have q := hr (by omega) (by omega) (by omega); omega)
  all_goals refine ⟨(by first | rfl | rw [hr (by omega) (by omega) (by omega)]), (by repeat (first | exact Out.refl | exact Out.F | refine Out.up ?_ (by decide) | refine Out.row ?_ (by decide))), ?_⟩
  all_goals exact h.zero
theorem two_shut {LR : tLR} {l : Launch} {G : pG} {x1 : Int} : Pair LR l G 0 mX11_shut (0, 0) 1 mX12_shut (0, 0) [(0, x1)] := by
  intro n K F E h
  have hK := h.KS
  have hF := h.FS
  have hL := h.2.2.2.2.2.2.1
  have e59 := hL.1.1
  have e61 := hL.2.1.1
  have b59 := hL.1.2
  have b61 := hL.2.1.2
  have hr := hL.2.2.2.2 x1
  all_goals refine vX11_shut_0 0 _ ?_
  all_goals simp only [hF.f0_0, hF.f0_9, hF.f0_11, hF.f0_12, hF.f0_13, hF.f1_0, hF.f1_1, hF.f1_2, hF.f1_3, hF.f2_0, hF.f22_0, hF.f41_0, hF.f41_2, hF.f66_2, hF.f66_3, hF.f66_12, hF.f66_58, hF.f66_60, hK.k0, hK.k1, hK.k2, hK.k3, hK.k4, hK.k5, hK.k6, hK.k22, hK.k23, hK.k41, hK.k42, hK.k43, hK.k44, hK.k49, hK.k66, hK.k67, hK.k68, hK.k75, hK.k97, hK.k98, pUp1, pRow1, rUpA, Int.reduceEq, reduceIte, Int.reduceNeg, Int.reduceLE, Int.reduceLT, eq_self, true_and, and_true, and_self, forall_eq, Option.toList, List.cons_append, List.nil_append, List.append_nil]
  all_goals repeat' (first | with_reducible (refine And.intro ?_ ?_) | with_reducible (intro _))
  all_goals try first | contradiction | rfl | omega
  all_goals refine ⟨_, rfl, (by repeat (first | exact Out.refl | exact Out.F | refine Out.up ?_ (by decide) | refine Out.row ?_ (by decide))), hK, vX12_shut_0 66 _ ?_⟩
  all_goals simp only [hF.f0_0, hF.f0_9, hF.f0_11, hF.f0_12, hF.f0_13, hF.f1_0, hF.f1_1, hF.f1_2, hF.f1_3, hF.f2_0, hF.f22_0, hF.f41_0, hF.f41_2, hF.f66_2, hF.f66_3, hF.f66_12, hF.f66_58, hF.f66_60, hK.k0, hK.k1, hK.k2, hK.k3, hK.k4, hK.k5, hK.k6, hK.k22, hK.k23, hK.k41, hK.k42, hK.k43, hK.k44, hK.k49, hK.k66, hK.k67, hK.k68, hK.k75, hK.k97, hK.k98, pUp1, pRow1, rUpA, Int.reduceEq, reduceIte, Int.reduceNeg, Int.reduceLE, Int.reduceLT, eq_self, true_and, and_true, and_self, forall_eq, Option.toList, List.cons_append, List.nil_append, List.append_nil]
  all_goals repeat' (first | with_reducible (refine And.intro ?_ ?_) | with_reducible (intro _))
  all_goals try first | contradiction | rfl | omega
  all_goals refine ⟨(by first | rfl | (rw [hr (by omega) (by omega) (by omega)])), (by repeat (first | exact Out.refl | exact Out.F | refine Out.up ?_ (by decide) | refine Out.row ?_ (by decide))), ?_⟩
  all_goals exact h.zero
