/-! the pair feed (gen_21e.py) -/
theorem inv_tape {LR : tLR} {G : pG} {n : Nat} {K : Int → Nat × Nat} {F E : Int → Int → Int} {a b : Int} {p q : Int → Int} (h : Inv LR G n K F E) (ht : TpR a p b q) : Inv LR G n K (pUp (pUp (pUp F 22 1 a) 66 0 0) 66 13 b) (pRow (pRow E 23 p) 75 q) := by
  refine inv_build h ?_ ?_ ?_ ?_ ?_ ?_ ?_ ?_ ?_ ?_ ?_ ?_ ?_ ?_ ?_
  · repeat (first | exact h.1.2.1 | refine FS.up ?_ (by decide +kernel))
  · repeat (first | exact h.1.2.2.2.1 | refine ES.up ?_ (by decide +kernel) | refine ES.row ?_ (by decide +kernel))
  · intro a ha; repeat (first | rfl | rw [pUp_an (by omega)] | rw [pRow_ne (by omega)])
  · intro a ha; repeat (first | rfl | rw [pUp_an (by omega)] | rw [pRow_ne (by omega)])
  · intro a ha; repeat (first | rfl | rw [pUp_an (by omega)] | rw [pRow_ne (by omega)])
  all_goals try simp only [pUp1, pRow1, rUpA, Int.reduceEq, reduceIte]
  all_goals first | exact h.2.1 | exact h.2.2.1 | exact h.2.2.2.1 | exact h.2.2.2.2.1 | exact h.2.2.2.2.2.1 | exact h.2.2.2.2.2.2.1 | exact h.2.2.2.2.2.2.2.1 | exact h.2.2.2.2.2.2.2.2.1 | exact h.2.2.2.2.2.2.2.2.2.1 | exact h.2.2.2.2.2.2.2.2.2.2 | skip
  exact ht
theorem two_feed {LR : tLR} {l : Launch} {G : pG} {x1 x2 x3 x4 x5 : Int} : Pair LR l G 1 mX11_feed (0, 0) 1 mX12_feed (0, 0) [(0, x1), (0, x2), (0, x3), (0, x4), (0, x5)] := by
  intro n K F E h
  have hK := h.KS
  have hF := h.FS
  have ht := h.2.2.2.2.2.1
  have t1 := ht.1
  have t2 := ht.2.1
  have s : ∀ x, pUp F 22 1 x 22 1 = x := fun x => pUp_s
  have hF' : ∀ x, FS (pUp F 22 1 x) := fun x => hF.up (by decide +kernel)
  refine vX11_feed_0 0 x1 x2 x3 x4 x5 ?_
  simp only [hF.f0_9, hK.k0, hK.k22]
  refine ⟨trivial, trivial, by omega, fun z => c_put hK hF t2.1 (by omega) ?_, fun z => ?_⟩
  · refine vX11_feed_26 0 x2 x3 x4 x5 ?_
    simp only [(hF' _).f0_9, hK.k0, hK.k22]
    refine ⟨trivial, trivial, c_put hK (hF' _) (by simp only [s]; omega) (by simp only [s]; omega) ?_⟩
    simp only [pUp_pUp, s, pRow_row, pRow_at]
    refine vX11_feed_34 0 x3 x4 x5 ?_
    simp only [(hF' _).f0_9, hK.k0, hK.k22]
    refine ⟨trivial, trivial, c_put hK (hF' _) (by simp only [s]; omega) (by simp only [s]; omega) ?_⟩
    simp only [pUp_pUp, s, pRow_row, pRow_at]
    refine vX11_feed_42 0 x4 x5 ?_
    simp only [(hF' _).f0_9, hK.k0, hK.k22]
    refine ⟨trivial, trivial, c_put hK (hF' _) (by simp only [s]; omega) (by simp only [s]; omega) ?_⟩
    simp only [pUp_pUp, s, pRow_row, pRow_at]
    refine vX11_feed_51 0 x5 ?_
    simp only [(hF' _).f0_9, hK.k0, hK.k22]
    refine ⟨trivial, trivial, c_put hK (hF' _) (by simp only [s]; omega) (by simp only [s]; omega) ?_⟩
    simp only [pUp_pUp, s, pRow_row, pRow_at]
    refine vX11_feed_60 0 ?_
    simp only [(hF' _).f0_9, hK.k0, hK.k22, s]
    refine ⟨trivial, trivial, _, rfl, ?_, hK, ?_⟩
    · exact Out.row Out.F (by decide)
    generalize ep : put4 gC (put4 gC (put4 gC (put4 gC (put4 gC (E 23) (F 22 1) x1) (F 22 1 + 1 + 1 + 1 + 1) x2) (F 22 1 + 1 + 1 + 1 + 1 + 1 + 1 + 1 + 1) x3) (F 22 1 + 1 + 1 + 1 + 1 + 1 + 1 + 1 + 1 + 1 + 1 + 1 + 1) x4) (F 22 1 + 1 + 1 + 1 + 1 + 1 + 1 + 1 + 1 + 1 + 1 + 1 + 1 + 1 + 1 + 1 + 1) x5 = p
    generalize ea : F 22 1 + 1 + 1 + 1 + 1 + 1 + 1 + 1 + 1 + 1 + 1 + 1 + 1 + 1 + 1 + 1 + 1 + 1 + 1 + 1 + 1 = a
    have e13 : pUp F 22 1 a 66 13 = F 66 13 := pUp_a (by decide)
    have s2 : ∀ x, pUp (pUp (pUp F 22 1 a) 66 0 0) 66 13 x 66 13 = x := fun x => pUp_s
    have hF2 : FS (pUp (pUp F 22 1 a) 66 0 0) := (hF' a).up (by decide +kernel)
    have hF3 : ∀ x, FS (pUp (pUp (pUp F 22 1 a) 66 0 0) 66 13 x) := fun x => hF2.up (by decide +kernel)
    have e14 : pUp (pUp F 22 1 a) 66 0 0 66 13 = F 66 13 := by rw [pUp_k (by decide), e13]
    have e75 : pRow E 23 p 75 = E 75 := pRow_ne (by decide)
    refine vX12_feed_0 66 x1 x2 x3 x4 x5 ?_
    simp only [hK.k66, e13]
    refine ⟨trivial, fun F1 e1 => ⟨by omega, fun y => ?_, fun y => absurd (by omega) y⟩⟩
    subst e1
    refine r_four hK hF2 (by rw [e14]; omega) (by rw [e14]; omega) ?_
    rw [e14, e75]
    refine vX12_feed_25 66 x2 x3 x4 x5 ?_
    simp only [hK.k66]
    refine ⟨trivial, r_four hK (hF3 _) (by simp only [s2]; omega) (by simp only [s2]; omega) ?_⟩
    simp only [pUp_pUp, s2, pRow_row, pRow_at]
    refine vX12_feed_30 66 x3 x4 x5 ?_
    simp only [hK.k66]
    refine ⟨trivial, r_four hK (hF3 _) (by simp only [s2]; omega) (by simp only [s2]; omega) ?_⟩
    simp only [pUp_pUp, s2, pRow_row, pRow_at]
    refine vX12_feed_35 66 x4 x5 ?_
    simp only [hK.k66]
    refine ⟨trivial, r_four hK (hF3 _) (by simp only [s2]; omega) (by simp only [s2]; omega) ?_⟩
    simp only [pUp_pUp, s2, pRow_row, pRow_at]
    refine vX12_feed_41 66 x5 ?_
    simp only [hK.k66]
    refine ⟨trivial, r_four hK (hF3 _) (by simp only [s2]; omega) (by simp only [s2]; omega) ?_⟩
    simp only [pUp_pUp, s2, pRow_row, pRow_at]
    refine vX12_feed_47 66 ?_
    simp only [hK.k66, s2]
    refine ⟨trivial, ?_, ?_, inv_tape h ?_⟩
    · rw [t1, ea]
    · exact Out.row (Out.onF Out.refl) (by decide)
    · subst ea ep
      exact tp_four (tp_four (tp_four (tp_four (tp_four ht (by omega)) (by omega)) (by omega)) (by omega)) (by omega)
  · refine ⟨_, rfl, Out.refl, hK, vX12_feed_0 66 x1 x2 x3 x4 x5 ?_⟩
    simp only [hK.k66]
    refine ⟨trivial, fun F1 e1 => ⟨by omega, fun y => absurd y (by omega), fun y => ?_⟩⟩
    subst e1
    exact ⟨rfl, Out.F, h.zero⟩
