/-! the pairs image, back (gen_21g.py) -/
theorem image_0 {LR : tLR} {l : Launch} {G : pG} (hL : LOk LR) {n : Nat} {K : Int → Nat × Nat} {F E : Int → Int → Int} (h : Inv LR G n K F E) : PC l G 1 mX1_copy (0, 0) [(2, 52), (2, 1)] (n, K, F, E) (fun r μ => PW l G 2 mX11_image (0, 0) 28 [(0, (2, 0)), (1, (0, 0))] (r.toList ++ []) μ (PostC LR l G 1 mX12_image (0, 0) [(0, 0)] (n, K, F, E))) := by
  have hK := h.KS
  have hF := h.FS
  have hk := h.2.1
  have hl : ∀ t r r', (∀ j, 0 ≤ j → j < 900 → r' j = r j) → LawAt LR K F E t r → LawAt LR K F E t r' := fun t r r' e q => q.row hL e
  refine c_copy (by rw [hK.k52]) (by rw [hK.k1]) hF.f52_0 hF.f1_0 (by rw [hK.k53]) (by rw [hK.k2]) hF.f53_0 hF.f2_0 hK.k54 hK.k3 hF.f52_1 hF.f1_1 hK.k55 hK.k4 hF.f52_2 hF.f1_2 hK.k56 hK.k5 hF.f52_3 hF.f1_3 hK.k57 hK.k6 hF.f52_5 hF.f1_5 hK.k58 hK.k7 (by decide) (by decide) (by decide) (fun j j0 j1 => (hk.2.2.2.1.2.2.2.2 j j0 j1).elim Or.inl (fun ⟨r, q⟩ => Or.inr q.2.1)) fun E1 q1 q2 q3 q4 q5 o => ?_
  have r3 : E1 3 = E 3 := o 3 (by decide) (by decide) (by decide) (by decide) (by decide)
  have r4 : E1 4 = E 4 := o 4 (by decide) (by decide) (by decide) (by decide) (by decide)
  have r5 : E1 5 = E 5 := o 5 (by decide) (by decide) (by decide) (by decide) (by decide)
  have r6 : E1 6 = E 6 := o 6 (by decide) (by decide) (by decide) (by decide) (by decide)
  have r7 : E1 7 = E 7 := o 7 (by decide) (by decide) (by decide) (by decide) (by decide)
  have r68 : E1 68 = E 68 := o 68 (by decide) (by decide) (by decide) (by decide) (by decide)
  have r9 : E1 9 = E 9 := o 9 (by decide) (by decide) (by decide) (by decide) (by decide)
  have r70 : E1 70 = E 70 := o 70 (by decide) (by decide) (by decide) (by decide) (by decide)
  have r69 : E1 69 = E 69 := o 69 (by decide) (by decide) (by decide) (by decide) (by decide)
  have r61 : E1 61 = E 61 := o 61 (by decide) (by decide) (by decide) (by decide) (by decide)
  have r62 : E1 62 = E 62 := o 62 (by decide) (by decide) (by decide) (by decide) (by decide)
  have r63 : E1 63 = E 63 := o 63 (by decide) (by decide) (by decide) (by decide) (by decide)
  have r64 : E1 64 = E 64 := o 64 (by decide) (by decide) (by decide) (by decide) (by decide)
  have r65 : E1 65 = E 65 := o 65 (by decide) (by decide) (by decide) (by decide) (by decide)
  have r11 : E1 11 = E 11 := o 11 (by decide) (by decide) (by decide) (by decide) (by decide)
  have r12 : E1 12 = E 12 := o 12 (by decide) (by decide) (by decide) (by decide) (by decide)
  have r71 : E1 71 = E 71 := o 71 (by decide) (by decide) (by decide) (by decide) (by decide)
  have r72 : E1 72 = E 72 := o 72 (by decide) (by decide) (by decide) (by decide) (by decide)
  have r23 : E1 23 = E 23 := o 23 (by decide) (by decide) (by decide) (by decide) (by decide)
  have r75 : E1 75 = E 75 := o 75 (by decide) (by decide) (by decide) (by decide) (by decide)
  have r42 : E1 42 = E 42 := o 42 (by decide) (by decide) (by decide) (by decide) (by decide)
  have r97 : E1 97 = E 97 := o 97 (by decide) (by decide) (by decide) (by decide) (by decide)
  have r43 : E1 43 = E 43 := o 43 (by decide) (by decide) (by decide) (by decide) (by decide)
  have r98 : E1 98 = E 98 := o 98 (by decide) (by decide) (by decide) (by decide) (by decide)
  have r49 : E1 49 = E 49 := o 49 (by decide) (by decide) (by decide) (by decide) (by decide)
  have r67 : E1 67 = E 67 := o 67 (by decide) (by decide) (by decide) (by decide) (by decide)
  have r19 : E1 19 = E 19 := o 19 (by decide) (by decide) (by decide) (by decide) (by decide)
  have r104 : E1 104 = E 104 := o 104 (by decide) (by decide) (by decide) (by decide) (by decide)
  have es1 : ES E1 := by
    intro t ht
    have q : eTab.all (fun t => !(decide (t.1 = 54)) && !(decide (t.1 = 55)) && !(decide (t.1 = 56)) && !(decide (t.1 = 57)) && !(decide (t.1 = 58))) = true := by decide +kernel
    have := List.all_eq_true.mp q t ht
    simp only [Bool.and_eq_true, Bool.not_eq_true', decide_eq_false_iff_not] at this
    rw [o t.1 this.1.1.1.1 this.1.1.1.2 this.1.1.2 this.1.2 this.2]
    exact h.1.2.2.2.1 t ht
  have hF1 : FS (pUp (pUp (pUp F 52 4 (F 1 4)) 52 6 (F 1 6)) 52 7 (F 1 7)) := ((hF.up (by decide +kernel)).up (by decide +kernel)).up (by decide +kernel)
  refine vX11_image_28 0 0 ?_
  simp only [hF1.f0_2, hK.k0, hK.k9]
  refine ⟨trivial, by decide, trivial, by decide, fun E2 e2 F2 e2f => ?_⟩
  have hF2 : FS F2 := by rw [e2f]; exact hF1.up (by decide +kernel)
  refine ⟨_, rfl, ?_, hK, vX12_image_0 66 0 ⟨by rw [hK.k66], fun F3 e3 => ⟨fun _ => ?_, fun z => absurd (by decide) z⟩⟩⟩
  · intro a ha
    rw [e2]
    exact ⟨rfl, (pUp_an (by omega)).trans (o a (by omega) (by omega) (by omega) (by omega) (by omega))⟩
  have hF3 : FS F3 := by rw [e3]; exact hF2.up (by decide +kernel)
  refine r_image_23 hK hF3 (by decide) (by decide) 5535 0 E2 (by decide) (by decide) ?_
  refine ⟨rfl, ?_, ?_⟩
  · exact ((Out.onF Out.refl).row (by decide)).up (by decide)
  subst e3 e2f e2
  dsimp only [InvM]
  refine inv_build h ?_ ?_ ?_ ?_ ?_ ?_ ?_ ?_ ?_ ?_ ?_ ?_ ?_ ?_ ?_
  · exact hF3.up (by decide +kernel)
  · exact ((es1.up (by decide +kernel)).row (by decide +kernel)).up (by decide +kernel)
  · intro a ha; rw [pUp_an (by omega), pRow_ne (by omega), pUp_an (by omega)]; exact o a (by omega) (by omega) (by omega) (by omega) (by omega)
  · intro a ha; rw [pUp_an (by omega), pUp_an (by omega), pUp_an (by omega), pUp_an (by omega), pUp_an (by omega), pUp_an (by omega)]
  · intro a ha; rw [pUp_an (by omega), pRow_ne (by omega), pUp_an (by omega)]; exact o a (by omega) (by omega) (by omega) (by omega) (by omega)
  all_goals simp only [pUp1, pRow1, rUpA, Int.reduceEq, reduceIte, r3, r4, r5, r6, r7, r68, r9, r70, r69, r61, r62, r63, r64, r65, r11, r12, r71, r72, r23, r75, r42, r97, r43, r98, r49, r67, r19, r104]
  all_goals first | exact h.2.1 | exact h.2.2.1 | exact h.2.2.2.1 | exact h.2.2.2.2.1 | exact h.2.2.2.2.2.1 | exact h.2.2.2.2.2.2.1 | exact h.2.2.2.2.2.2.2.1 | exact h.2.2.2.2.2.2.2.2.1 | exact h.2.2.2.2.2.2.2.2.2.1 | exact h.2.2.2.2.2.2.2.2.2.2 | skip
  · exact ⟨rfl, Or.inr ⟨rfl, hk.congr hl q1 q2 q3 q4 q5 (fun j j0 j1 => by unfold rCp; rw [if_pos (by omega)]; congr 1; omega)⟩⟩
  · refine ⟨h.2.2.2.1.1, h.2.2.2.1.2.imp id (fun z => ⟨z.1, z.2.congr hl (fun _ _ _ => rfl) (fun _ _ _ => rfl) (fun _ _ _ => rfl) (fun _ _ _ => rfl) (fun _ _ _ => rfl) (fun j j0 j1 => ?_)⟩)⟩
    unfold rCp
    rw [if_neg (by omega)]
  · exact ⟨trivial, h.2.2.2.2.2.2.2.1.2⟩
theorem image_1 {LR : tLR} {l : Launch} {G : pG} (hL : LOk LR) {n : Nat} {K : Int → Nat × Nat} {F E : Int → Int → Int} (h : Inv LR G n K F E) : PC l G 1 mX1_copy (0, 0) [(2, 59), (2, 1)] (n, K, F, E) (fun r μ => PW l G 2 mX11_image (0, 0) 28 [(0, (2, 0)), (1, (0, 1))] (r.toList ++ []) μ (PostC LR l G 1 mX12_image (0, 0) [(0, 1)] (n, K, F, E))) := by
  have hK := h.KS
  have hF := h.FS
  have hk := h.2.1
  have hl : ∀ t r r', (∀ j, 0 ≤ j → j < 900 → r' j = r j) → LawAt LR K F E t r → LawAt LR K F E t r' := fun t r r' e q => q.row hL e
  refine c_copy (by rw [hK.k59]) (by rw [hK.k1]) hF.f59_0 hF.f1_0 (by rw [hK.k60]) (by rw [hK.k2]) hF.f60_0 hF.f2_0 hK.k61 hK.k3 hF.f59_1 hF.f1_1 hK.k62 hK.k4 hF.f59_2 hF.f1_2 hK.k63 hK.k5 hF.f59_3 hF.f1_3 hK.k64 hK.k6 hF.f59_5 hF.f1_5 hK.k65 hK.k7 (by decide) (by decide) (by decide) (fun j j0 j1 => (hk.2.2.2.1.2.2.2.2 j j0 j1).elim Or.inl (fun ⟨r, q⟩ => Or.inr q.2.1)) fun E1 q1 q2 q3 q4 q5 o => ?_
  have r3 : E1 3 = E 3 := o 3 (by decide) (by decide) (by decide) (by decide) (by decide)
  have r4 : E1 4 = E 4 := o 4 (by decide) (by decide) (by decide) (by decide) (by decide)
  have r5 : E1 5 = E 5 := o 5 (by decide) (by decide) (by decide) (by decide) (by decide)
  have r6 : E1 6 = E 6 := o 6 (by decide) (by decide) (by decide) (by decide) (by decide)
  have r7 : E1 7 = E 7 := o 7 (by decide) (by decide) (by decide) (by decide) (by decide)
  have r68 : E1 68 = E 68 := o 68 (by decide) (by decide) (by decide) (by decide) (by decide)
  have r9 : E1 9 = E 9 := o 9 (by decide) (by decide) (by decide) (by decide) (by decide)
  have r70 : E1 70 = E 70 := o 70 (by decide) (by decide) (by decide) (by decide) (by decide)
  have r54 : E1 54 = E 54 := o 54 (by decide) (by decide) (by decide) (by decide) (by decide)
  have r55 : E1 55 = E 55 := o 55 (by decide) (by decide) (by decide) (by decide) (by decide)
  have r56 : E1 56 = E 56 := o 56 (by decide) (by decide) (by decide) (by decide) (by decide)
  have r57 : E1 57 = E 57 := o 57 (by decide) (by decide) (by decide) (by decide) (by decide)
  have r58 : E1 58 = E 58 := o 58 (by decide) (by decide) (by decide) (by decide) (by decide)
  have r69 : E1 69 = E 69 := o 69 (by decide) (by decide) (by decide) (by decide) (by decide)
  have r11 : E1 11 = E 11 := o 11 (by decide) (by decide) (by decide) (by decide) (by decide)
  have r12 : E1 12 = E 12 := o 12 (by decide) (by decide) (by decide) (by decide) (by decide)
  have r71 : E1 71 = E 71 := o 71 (by decide) (by decide) (by decide) (by decide) (by decide)
  have r72 : E1 72 = E 72 := o 72 (by decide) (by decide) (by decide) (by decide) (by decide)
  have r23 : E1 23 = E 23 := o 23 (by decide) (by decide) (by decide) (by decide) (by decide)
  have r75 : E1 75 = E 75 := o 75 (by decide) (by decide) (by decide) (by decide) (by decide)
  have r42 : E1 42 = E 42 := o 42 (by decide) (by decide) (by decide) (by decide) (by decide)
  have r97 : E1 97 = E 97 := o 97 (by decide) (by decide) (by decide) (by decide) (by decide)
  have r43 : E1 43 = E 43 := o 43 (by decide) (by decide) (by decide) (by decide) (by decide)
  have r98 : E1 98 = E 98 := o 98 (by decide) (by decide) (by decide) (by decide) (by decide)
  have r49 : E1 49 = E 49 := o 49 (by decide) (by decide) (by decide) (by decide) (by decide)
  have r67 : E1 67 = E 67 := o 67 (by decide) (by decide) (by decide) (by decide) (by decide)
  have r19 : E1 19 = E 19 := o 19 (by decide) (by decide) (by decide) (by decide) (by decide)
  have r104 : E1 104 = E 104 := o 104 (by decide) (by decide) (by decide) (by decide) (by decide)
  have es1 : ES E1 := by
    intro t ht
    have q : eTab.all (fun t => !(decide (t.1 = 61)) && !(decide (t.1 = 62)) && !(decide (t.1 = 63)) && !(decide (t.1 = 64)) && !(decide (t.1 = 65))) = true := by decide +kernel
    have := List.all_eq_true.mp q t ht
    simp only [Bool.and_eq_true, Bool.not_eq_true', decide_eq_false_iff_not] at this
    rw [o t.1 this.1.1.1.1 this.1.1.1.2 this.1.1.2 this.1.2 this.2]
    exact h.1.2.2.2.1 t ht
  have hF1 : FS (pUp (pUp (pUp F 59 4 (F 1 4)) 59 6 (F 1 6)) 59 7 (F 1 7)) := ((hF.up (by decide +kernel)).up (by decide +kernel)).up (by decide +kernel)
  refine vX11_image_28 0 1 ?_
  simp only [hF1.f0_2, hK.k0, hK.k9]
  refine ⟨trivial, by decide, trivial, by decide, fun E2 e2 F2 e2f => ?_⟩
  have hF2 : FS F2 := by rw [e2f]; exact hF1.up (by decide +kernel)
  refine ⟨_, rfl, ?_, hK, vX12_image_0 66 1 ⟨by rw [hK.k66], fun F3 e3 => ⟨fun _ => ?_, fun z => absurd (by decide) z⟩⟩⟩
  · intro a ha
    rw [e2]
    exact ⟨rfl, (pUp_an (by omega)).trans (o a (by omega) (by omega) (by omega) (by omega) (by omega))⟩
  have hF3 : FS F3 := by rw [e3]; exact hF2.up (by decide +kernel)
  refine r_image_23 hK hF3 (by decide) (by decide) 5535 0 E2 (by decide) (by decide) ?_
  refine ⟨rfl, ?_, ?_⟩
  · exact ((Out.onF Out.refl).row (by decide)).up (by decide)
  subst e3 e2f e2
  dsimp only [InvM]
  refine inv_build h ?_ ?_ ?_ ?_ ?_ ?_ ?_ ?_ ?_ ?_ ?_ ?_ ?_ ?_ ?_
  · exact hF3.up (by decide +kernel)
  · exact ((es1.up (by decide +kernel)).row (by decide +kernel)).up (by decide +kernel)
  · intro a ha; rw [pUp_an (by omega), pRow_ne (by omega), pUp_an (by omega)]; exact o a (by omega) (by omega) (by omega) (by omega) (by omega)
  · intro a ha; rw [pUp_an (by omega), pUp_an (by omega), pUp_an (by omega), pUp_an (by omega), pUp_an (by omega), pUp_an (by omega)]
  · intro a ha; rw [pUp_an (by omega), pRow_ne (by omega), pUp_an (by omega)]; exact o a (by omega) (by omega) (by omega) (by omega) (by omega)
  all_goals simp only [pUp1, pRow1, rUpA, Int.reduceEq, reduceIte, r3, r4, r5, r6, r7, r68, r9, r70, r54, r55, r56, r57, r58, r69, r11, r12, r71, r72, r23, r75, r42, r97, r43, r98, r49, r67, r19, r104]
  all_goals first | exact h.2.1 | exact h.2.2.1 | exact h.2.2.2.1 | exact h.2.2.2.2.1 | exact h.2.2.2.2.2.1 | exact h.2.2.2.2.2.2.1 | exact h.2.2.2.2.2.2.2.1 | exact h.2.2.2.2.2.2.2.2.1 | exact h.2.2.2.2.2.2.2.2.2.1 | exact h.2.2.2.2.2.2.2.2.2.2 | skip
  · refine ⟨h.2.2.1.1, h.2.2.1.2.imp id (fun z => ⟨z.1, z.2.congr hl (fun _ _ _ => rfl) (fun _ _ _ => rfl) (fun _ _ _ => rfl) (fun _ _ _ => rfl) (fun _ _ _ => rfl) (fun j j0 j1 => ?_)⟩)⟩
    unfold rCp
    rw [if_neg (by omega)]
  · exact ⟨rfl, Or.inr ⟨rfl, hk.congr hl q1 q2 q3 q4 q5 (fun j j0 j1 => by unfold rCp; rw [if_pos (by omega)]; congr 1; omega)⟩⟩
  · exact ⟨trivial, h.2.2.2.2.2.2.2.1.2⟩
theorem back_0 {LR : tLR} {l : Launch} {G : pG} (hL : LOk LR) {n : Nat} {K : Int → Nat × Nat} {F E : Int → Int → Int} (h : Inv LR G n K F E) (hz : ¬ E 9 0 = 0) : PC l G 1 mX1_copy (0, 0) [(2, 1), (2, 52)] (n, K, F, E) (fun r μ => PW l G 2 mX11_back (0, 0) 44 [(0, (2, 0))] (r.toList ++ []) μ (PostC LR l G 1 mX12_back (0, 0) [(0, 0)] (n, K, F, E))) := by
  have hK := h.KS
  have hF := h.FS
  have hi := h.2.2.1
  have ez : E 70 0 = E 9 0 := hi.1
  have hk := (hi.2.resolve_left hz).2
  have hu := h.2.2.2.2.1
  have hl : ∀ t r r', (∀ j, 0 ≤ j → j < 900 → r' j = r j) → LawAt LR K F E t r → LawAt LR K F E t r' := fun t r r' e q => q.row hL e
  refine c_copy (by rw [hK.k1]) (by rw [hK.k52]) hF.f1_0 hF.f52_0 (by rw [hK.k2]) (by rw [hK.k53]) hF.f2_0 hF.f53_0 hK.k3 hK.k54 hF.f1_1 hF.f52_1 hK.k4 hK.k55 hF.f1_2 hF.f52_2 hK.k5 hK.k56 hF.f1_3 hF.f52_3 hK.k6 hK.k57 hF.f1_5 hF.f52_5 hK.k7 hK.k58 (by decide) (by decide) (by decide) (fun j j0 j1 => (hk.2.2.2.1.2.2.2.2 j j0 j1).elim Or.inl (fun ⟨r, q⟩ => Or.inr q.2.1)) fun E1 q1 q2 q3 q4 q5 o => ?_
  have r68 : E1 68 = E 68 := o 68 (by decide) (by decide) (by decide) (by decide) (by decide)
  have r9 : E1 9 = E 9 := o 9 (by decide) (by decide) (by decide) (by decide) (by decide)
  have r70 : E1 70 = E 70 := o 70 (by decide) (by decide) (by decide) (by decide) (by decide)
  have r54 : E1 54 = E 54 := o 54 (by decide) (by decide) (by decide) (by decide) (by decide)
  have r55 : E1 55 = E 55 := o 55 (by decide) (by decide) (by decide) (by decide) (by decide)
  have r56 : E1 56 = E 56 := o 56 (by decide) (by decide) (by decide) (by decide) (by decide)
  have r57 : E1 57 = E 57 := o 57 (by decide) (by decide) (by decide) (by decide) (by decide)
  have r58 : E1 58 = E 58 := o 58 (by decide) (by decide) (by decide) (by decide) (by decide)
  have r69 : E1 69 = E 69 := o 69 (by decide) (by decide) (by decide) (by decide) (by decide)
  have r61 : E1 61 = E 61 := o 61 (by decide) (by decide) (by decide) (by decide) (by decide)
  have r62 : E1 62 = E 62 := o 62 (by decide) (by decide) (by decide) (by decide) (by decide)
  have r63 : E1 63 = E 63 := o 63 (by decide) (by decide) (by decide) (by decide) (by decide)
  have r64 : E1 64 = E 64 := o 64 (by decide) (by decide) (by decide) (by decide) (by decide)
  have r65 : E1 65 = E 65 := o 65 (by decide) (by decide) (by decide) (by decide) (by decide)
  have r11 : E1 11 = E 11 := o 11 (by decide) (by decide) (by decide) (by decide) (by decide)
  have r12 : E1 12 = E 12 := o 12 (by decide) (by decide) (by decide) (by decide) (by decide)
  have r71 : E1 71 = E 71 := o 71 (by decide) (by decide) (by decide) (by decide) (by decide)
  have r72 : E1 72 = E 72 := o 72 (by decide) (by decide) (by decide) (by decide) (by decide)
  have r23 : E1 23 = E 23 := o 23 (by decide) (by decide) (by decide) (by decide) (by decide)
  have r75 : E1 75 = E 75 := o 75 (by decide) (by decide) (by decide) (by decide) (by decide)
  have r42 : E1 42 = E 42 := o 42 (by decide) (by decide) (by decide) (by decide) (by decide)
  have r97 : E1 97 = E 97 := o 97 (by decide) (by decide) (by decide) (by decide) (by decide)
  have r43 : E1 43 = E 43 := o 43 (by decide) (by decide) (by decide) (by decide) (by decide)
  have r98 : E1 98 = E 98 := o 98 (by decide) (by decide) (by decide) (by decide) (by decide)
  have r49 : E1 49 = E 49 := o 49 (by decide) (by decide) (by decide) (by decide) (by decide)
  have r67 : E1 67 = E 67 := o 67 (by decide) (by decide) (by decide) (by decide) (by decide)
  have r19 : E1 19 = E 19 := o 19 (by decide) (by decide) (by decide) (by decide) (by decide)
  have r104 : E1 104 = E 104 := o 104 (by decide) (by decide) (by decide) (by decide) (by decide)
  have es1 : ES E1 := by
    intro t ht
    have q : eTab.all (fun t => !(decide (t.1 = 3)) && !(decide (t.1 = 4)) && !(decide (t.1 = 5)) && !(decide (t.1 = 6)) && !(decide (t.1 = 7))) = true := by decide +kernel
    have := List.all_eq_true.mp q t ht
    simp only [Bool.and_eq_true, Bool.not_eq_true', decide_eq_false_iff_not] at this
    rw [o t.1 this.1.1.1.1 this.1.1.1.2 this.1.1.2 this.1.2 this.2]
    exact h.1.2.2.2.1 t ht
  have hF1 : FS (pUp (pUp (pUp F 1 4 (F 52 4)) 1 6 (F 52 6)) 1 7 (F 52 7)) := ((hF.up (by decide +kernel)).up (by decide +kernel)).up (by decide +kernel)
  refine vX11_back_44 0 ?_
  simp only [hF1.f0_3, hK.k0, hK.k10]
  refine ⟨trivial, trivial, fun F2 e2 F4 e4 => ?_⟩
  have hF4 : FS F4 := by rw [e4, e2]; exact (hF1.up (by decide +kernel)).up (by decide +kernel)
  refine ⟨_, rfl, ?_, hK, vX12_back_0 66 0 ⟨by rw [hK.k66], fun F3 e3 => ⟨fun _ => ?_, fun z => absurd (by decide) z⟩⟩⟩
  · intro a ha
    exact ⟨rfl, o a (by omega) (by omega) (by omega) (by omega) (by omega)⟩
  have hF3 : FS F3 := by rw [e3]; exact hF4.up (by decide +kernel)
  simp only [hF4.f66_5, hK.k70, r70]
  refine ⟨by decide, trivial, by decide, fun _ => ?_, fun z => absurd (ez.symm.trans z) hz⟩
  refine r_back_39 hK hF3 (by decide) (by decide) 5535 0 E1 (by decide) (by decide) ?_
  refine ⟨rfl, ?_, ?_⟩
  · exact (Out.onF Out.refl).row (by decide)
  subst e3 e4 e2
  dsimp only [InvM]
  refine inv_build h ?_ ?_ ?_ ?_ ?_ ?_ ?_ ?_ ?_ ?_ ?_ ?_ ?_ ?_ ?_
  · exact (hF3.up (by decide +kernel)).up (by decide +kernel)
  · exact es1.row (by decide +kernel)
  · intro a ha; rw [pRow_ne (by omega)]; exact o a (by omega) (by omega) (by omega) (by omega) (by omega)
  · intro a ha; rw [pUp_an (by omega), pUp_an (by omega), pUp_an (by omega), pUp_an (by omega), pUp_an (by omega), pUp_an (by omega), pUp_an (by omega), pUp_an (by omega)]
  · intro a ha; rw [pRow_ne (by omega)]; exact o a (by omega) (by omega) (by omega) (by omega) (by omega)
  all_goals simp only [pUp1, pRow1, rUpA, Int.reduceEq, reduceIte, r68, r9, r70, r54, r55, r56, r57, r58, r69, r61, r62, r63, r64, r65, r11, r12, r71, r72, r23, r75, r42, r97, r43, r98, r49, r67, r19, r104]
  all_goals first | exact h.2.1 | exact h.2.2.1 | exact h.2.2.2.1 | exact h.2.2.2.2.1 | exact h.2.2.2.2.2.1 | exact h.2.2.2.2.2.2.1 | exact h.2.2.2.2.2.2.2.1 | exact h.2.2.2.2.2.2.2.2.1 | exact h.2.2.2.2.2.2.2.2.2.1 | exact h.2.2.2.2.2.2.2.2.2.2 | skip
  · exact hk.congr hl q1 q2 q3 q4 q5 (fun j j0 j1 => by unfold rCp; rw [if_pos (by omega)]; congr 1; omega)
  · exact ⟨hu.1, by decide, rfl, fun i i0 i1 => absurd i1 (by omega)⟩
  · exact ⟨trivial, h.2.2.2.2.2.2.2.1.2⟩
theorem back_1 {LR : tLR} {l : Launch} {G : pG} (hL : LOk LR) {n : Nat} {K : Int → Nat × Nat} {F E : Int → Int → Int} (h : Inv LR G n K F E) (hz : ¬ E 9 1 = 0) : PC l G 1 mX1_copy (0, 0) [(2, 1), (2, 59)] (n, K, F, E) (fun r μ => PW l G 2 mX11_back (0, 0) 44 [(0, (2, 0))] (r.toList ++ []) μ (PostC LR l G 1 mX12_back (0, 0) [(0, 1)] (n, K, F, E))) := by
  have hK := h.KS
  have hF := h.FS
  have hi := h.2.2.2.1
  have ez : E 70 1 = E 9 1 := hi.1
  have hk := (hi.2.resolve_left hz).2
  have hu := h.2.2.2.2.1
  have hl : ∀ t r r', (∀ j, 0 ≤ j → j < 900 → r' j = r j) → LawAt LR K F E t r → LawAt LR K F E t r' := fun t r r' e q => q.row hL e
  refine c_copy (by rw [hK.k1]) (by rw [hK.k59]) hF.f1_0 hF.f59_0 (by rw [hK.k2]) (by rw [hK.k60]) hF.f2_0 hF.f60_0 hK.k3 hK.k61 hF.f1_1 hF.f59_1 hK.k4 hK.k62 hF.f1_2 hF.f59_2 hK.k5 hK.k63 hF.f1_3 hF.f59_3 hK.k6 hK.k64 hF.f1_5 hF.f59_5 hK.k7 hK.k65 (by decide) (by decide) (by decide) (fun j j0 j1 => (hk.2.2.2.1.2.2.2.2 j j0 j1).elim Or.inl (fun ⟨r, q⟩ => Or.inr q.2.1)) fun E1 q1 q2 q3 q4 q5 o => ?_
  have r68 : E1 68 = E 68 := o 68 (by decide) (by decide) (by decide) (by decide) (by decide)
  have r9 : E1 9 = E 9 := o 9 (by decide) (by decide) (by decide) (by decide) (by decide)
  have r70 : E1 70 = E 70 := o 70 (by decide) (by decide) (by decide) (by decide) (by decide)
  have r54 : E1 54 = E 54 := o 54 (by decide) (by decide) (by decide) (by decide) (by decide)
  have r55 : E1 55 = E 55 := o 55 (by decide) (by decide) (by decide) (by decide) (by decide)
  have r56 : E1 56 = E 56 := o 56 (by decide) (by decide) (by decide) (by decide) (by decide)
  have r57 : E1 57 = E 57 := o 57 (by decide) (by decide) (by decide) (by decide) (by decide)
  have r58 : E1 58 = E 58 := o 58 (by decide) (by decide) (by decide) (by decide) (by decide)
  have r69 : E1 69 = E 69 := o 69 (by decide) (by decide) (by decide) (by decide) (by decide)
  have r61 : E1 61 = E 61 := o 61 (by decide) (by decide) (by decide) (by decide) (by decide)
  have r62 : E1 62 = E 62 := o 62 (by decide) (by decide) (by decide) (by decide) (by decide)
  have r63 : E1 63 = E 63 := o 63 (by decide) (by decide) (by decide) (by decide) (by decide)
  have r64 : E1 64 = E 64 := o 64 (by decide) (by decide) (by decide) (by decide) (by decide)
  have r65 : E1 65 = E 65 := o 65 (by decide) (by decide) (by decide) (by decide) (by decide)
  have r11 : E1 11 = E 11 := o 11 (by decide) (by decide) (by decide) (by decide) (by decide)
  have r12 : E1 12 = E 12 := o 12 (by decide) (by decide) (by decide) (by decide) (by decide)
  have r71 : E1 71 = E 71 := o 71 (by decide) (by decide) (by decide) (by decide) (by decide)
  have r72 : E1 72 = E 72 := o 72 (by decide) (by decide) (by decide) (by decide) (by decide)
  have r23 : E1 23 = E 23 := o 23 (by decide) (by decide) (by decide) (by decide) (by decide)
  have r75 : E1 75 = E 75 := o 75 (by decide) (by decide) (by decide) (by decide) (by decide)
  have r42 : E1 42 = E 42 := o 42 (by decide) (by decide) (by decide) (by decide) (by decide)
  have r97 : E1 97 = E 97 := o 97 (by decide) (by decide) (by decide) (by decide) (by decide)
  have r43 : E1 43 = E 43 := o 43 (by decide) (by decide) (by decide) (by decide) (by decide)
  have r98 : E1 98 = E 98 := o 98 (by decide) (by decide) (by decide) (by decide) (by decide)
  have r49 : E1 49 = E 49 := o 49 (by decide) (by decide) (by decide) (by decide) (by decide)
  have r67 : E1 67 = E 67 := o 67 (by decide) (by decide) (by decide) (by decide) (by decide)
  have r19 : E1 19 = E 19 := o 19 (by decide) (by decide) (by decide) (by decide) (by decide)
  have r104 : E1 104 = E 104 := o 104 (by decide) (by decide) (by decide) (by decide) (by decide)
  have es1 : ES E1 := by
    intro t ht
    have q : eTab.all (fun t => !(decide (t.1 = 3)) && !(decide (t.1 = 4)) && !(decide (t.1 = 5)) && !(decide (t.1 = 6)) && !(decide (t.1 = 7))) = true := by decide +kernel
    have := List.all_eq_true.mp q t ht
    simp only [Bool.and_eq_true, Bool.not_eq_true', decide_eq_false_iff_not] at this
    rw [o t.1 this.1.1.1.1 this.1.1.1.2 this.1.1.2 this.1.2 this.2]
    exact h.1.2.2.2.1 t ht
  have hF1 : FS (pUp (pUp (pUp F 1 4 (F 59 4)) 1 6 (F 59 6)) 1 7 (F 59 7)) := ((hF.up (by decide +kernel)).up (by decide +kernel)).up (by decide +kernel)
  refine vX11_back_44 0 ?_
  simp only [hF1.f0_3, hK.k0, hK.k10]
  refine ⟨trivial, trivial, fun F2 e2 F4 e4 => ?_⟩
  have hF4 : FS F4 := by rw [e4, e2]; exact (hF1.up (by decide +kernel)).up (by decide +kernel)
  refine ⟨_, rfl, ?_, hK, vX12_back_0 66 1 ⟨by rw [hK.k66], fun F3 e3 => ⟨fun _ => ?_, fun z => absurd (by decide) z⟩⟩⟩
  · intro a ha
    exact ⟨rfl, o a (by omega) (by omega) (by omega) (by omega) (by omega)⟩
  have hF3 : FS F3 := by rw [e3]; exact hF4.up (by decide +kernel)
  simp only [hF4.f66_5, hK.k70, r70]
  refine ⟨by decide, trivial, by decide, fun _ => ?_, fun z => absurd (ez.symm.trans z) hz⟩
  refine r_back_39 hK hF3 (by decide) (by decide) 5535 0 E1 (by decide) (by decide) ?_
  refine ⟨rfl, ?_, ?_⟩
  · exact (Out.onF Out.refl).row (by decide)
  subst e3 e4 e2
  dsimp only [InvM]
  refine inv_build h ?_ ?_ ?_ ?_ ?_ ?_ ?_ ?_ ?_ ?_ ?_ ?_ ?_ ?_ ?_
  · exact (hF3.up (by decide +kernel)).up (by decide +kernel)
  · exact es1.row (by decide +kernel)
  · intro a ha; rw [pRow_ne (by omega)]; exact o a (by omega) (by omega) (by omega) (by omega) (by omega)
  · intro a ha; rw [pUp_an (by omega), pUp_an (by omega), pUp_an (by omega), pUp_an (by omega), pUp_an (by omega), pUp_an (by omega), pUp_an (by omega), pUp_an (by omega)]
  · intro a ha; rw [pRow_ne (by omega)]; exact o a (by omega) (by omega) (by omega) (by omega) (by omega)
  all_goals simp only [pUp1, pRow1, rUpA, Int.reduceEq, reduceIte, r68, r9, r70, r54, r55, r56, r57, r58, r69, r61, r62, r63, r64, r65, r11, r12, r71, r72, r23, r75, r42, r97, r43, r98, r49, r67, r19, r104]
  all_goals first | exact h.2.1 | exact h.2.2.1 | exact h.2.2.2.1 | exact h.2.2.2.2.1 | exact h.2.2.2.2.2.1 | exact h.2.2.2.2.2.2.1 | exact h.2.2.2.2.2.2.2.1 | exact h.2.2.2.2.2.2.2.2.1 | exact h.2.2.2.2.2.2.2.2.2.1 | exact h.2.2.2.2.2.2.2.2.2.2 | skip
  · exact hk.congr hl q1 q2 q3 q4 q5 (fun j j0 j1 => by unfold rCp; rw [if_pos (by omega)]; congr 1; omega)
  · exact ⟨hu.1, by decide, rfl, fun i i0 i1 => absurd i1 (by omega)⟩
  · exact ⟨trivial, h.2.2.2.2.2.2.2.1.2⟩
theorem two_image {LR : tLR} {l : Launch} {G : pG} (hL : LOk LR) {x1 : Int} : Pair LR l G 2 mX11_image (0, 0) 1 mX12_image (0, 0) [(0, x1)] := by
  intro n K F E h
  have hK := h.KS
  have hF := h.FS
  have e80 : E 8 0 = 52 := h.1.2.2.2.1 (8, 0, 52) (List.mem_of_getElem? (i := 0) rfl)
  have e81 : E 8 1 = 59 := h.1.2.2.2.1 (8, 1, 59) (List.mem_of_getElem? (i := 1) rfl)
  have no : x1 < 0 ∨ 2 ≤ x1 → PostC LR l G 1 mX12_image (0, 0) [(0, x1)] (n, K, F, E) (some (0, -1)) (n, K, pUp F 0 16 (-1), pUp E 49 0 (w32 (E 49 0 + 1))) := by
    intro q
    refine ⟨_, rfl, Out.refl.onF.up (by decide), hK, vX12_image_0 66 x1 ⟨by rw [hK.k66], fun F1 e1 => ⟨fun z => absurd z (by omega), fun z => ?_⟩⟩⟩
    subst e1
    refine k_tell hK ((hF.up (by decide +kernel)).up (by decide +kernel)).f66_2 (by decide) (fun z => absurd z (by decide)) fun _ => vX12_image_20 _ ⟨rfl, Out.refl.onF.up (by decide), ?_⟩
    have q := no_both hL (v := -1) h (by decide)
    rw [pUp_a (show (67 : Int) ≠ 49 by decide)]
    exact q
  refine vX11_image_0 0 x1 ?_
  simp only [hF.f0_0, hF.f0_1, hF.f0_13, hK.k0, hK.k8, hK.k49]
  refine ⟨fun z => ⟨trivial, fun F1 e1 => ⟨trivial, by decide, by decide, fun E2 e2 => by rw [e1, e2]; exact no (by omega)⟩⟩, fun z => ⟨fun y => ?_, fun y => ⟨trivial, fun F1 e1 => ⟨trivial, by decide, by decide, fun E2 e2 => by rw [e1, e2]; exact no (by omega)⟩⟩⟩⟩
  rcases (show x1 = 0 ∨ x1 = 1 by omega) with q | q <;> subst q
  · rw [e80]
    exact ⟨trivial, by decide, trivial, by decide, by rw [hK.k52], image_0 hL h⟩
  · rw [e81]
    exact ⟨trivial, by decide, trivial, by decide, by rw [hK.k59], image_1 hL h⟩
theorem two_back {LR : tLR} {l : Launch} {G : pG} (hL : LOk LR) {x1 : Int} : Pair LR l G 2 mX11_back (0, 0) 1 mX12_back (0, 0) [(0, x1)] := by
  intro n K F E h
  have hK := h.KS
  have hF := h.FS
  have e80 : E 8 0 = 52 := h.1.2.2.2.1 (8, 0, 52) (List.mem_of_getElem? (i := 0) rfl)
  have e81 : E 8 1 = 59 := h.1.2.2.2.1 (8, 1, 59) (List.mem_of_getElem? (i := 1) rfl)
  have i0 := h.2.2.1.1
  have i1 := h.2.2.2.1.1
  have no : x1 < 0 ∨ 2 ≤ x1 → PostC LR l G 1 mX12_back (0, 0) [(0, x1)] (n, K, F, E) (some (0, -1)) (n, K, pUp F 0 16 (-1), pUp E 49 0 (w32 (E 49 0 + 1))) := by
    intro q
    refine ⟨_, rfl, Out.refl.onF.up (by decide), hK, vX12_back_0 66 x1 ⟨by rw [hK.k66], fun F1 e1 => ⟨fun z => absurd z (by omega), fun z => ?_⟩⟩⟩
    subst e1
    refine k_tell hK ((hF.up (by decide +kernel)).up (by decide +kernel)).f66_2 (by decide) (fun z => absurd z (by decide)) fun _ => vX12_back_20 _ ⟨rfl, Out.refl.onF.up (by decide), ?_⟩
    have q := no_both hL (v := -1) h (by decide)
    rw [pUp_a (show (67 : Int) ≠ 49 by decide)]
    exact q
  have no2 : (x1 = 0 ∨ x1 = 1) → E 9 x1 = 0 → PostC LR l G 1 mX12_back (0, 0) [(0, x1)] (n, K, F, E) (some (0, -2)) (n, K, pUp F 0 16 (-2), pUp E 49 1 (w32 (E 49 1 + 1))) := by
    intro q q2
    have e70 : E 70 x1 = E 9 x1 := by rcases q with q | q <;> subst q <;> assumption
    have hF1 : FS (pUp F 0 16 (-2)) := hF.up (by decide +kernel)
    refine ⟨_, rfl, Out.refl.onF.up (by decide), hK, vX12_back_0 66 x1 ?_⟩
    simp only [hF1.f66_5, hK.k66, hK.k70]
    rw [pUp_a (show (70 : Int) ≠ 49 by decide)]
    refine ⟨trivial, fun F1 e1 => ⟨fun z => ⟨by decide, trivial, by omega, fun y => absurd (e70.trans q2) y, fun y => ?_⟩, fun z => absurd (by omega) z⟩⟩
    subst e1
    refine k_tell hK (hF1.up (by decide +kernel)).f66_2 (by decide) (fun z => absurd z (by decide)) fun _ => vX12_back_36 _ ⟨rfl, Out.refl.onF.up (by decide), ?_⟩
    have q := no_both hL (v := -2) h (by decide)
    rw [pUp_a (show (67 : Int) ≠ 49 by decide)]
    exact q
  refine vX11_back_0 0 x1 ?_
  simp only [hF.f0_0, hF.f0_1, hF.f0_2, hF.f0_13, hK.k0, hK.k1, hK.k8, hK.k9, hK.k49]
  refine ⟨fun z => ⟨trivial, fun F1 e1 => ⟨trivial, by decide, by decide, fun E2 e2 => by rw [e1, e2]; exact no (by omega)⟩⟩, fun z => ⟨fun y => ⟨trivial, by decide, trivial, by omega, fun u => ?_, fun u F1 e1 => ⟨trivial, by decide, by decide, fun E2 e2 => by rw [e1, e2]; exact no2 (by omega) u⟩⟩, fun y => ⟨trivial, fun F1 e1 => ⟨trivial, by decide, by decide, fun E2 e2 => by rw [e1, e2]; exact no (by omega)⟩⟩⟩⟩
  rcases (show x1 = 0 ∨ x1 = 1 by omega) with q | q <;> subst q
  · rw [e80]
    exact ⟨by decide, trivial, by decide, trivial, back_0 hL h u⟩
  · rw [e81]
    exact ⟨by decide, trivial, by decide, trivial, back_1 hL h u⟩
