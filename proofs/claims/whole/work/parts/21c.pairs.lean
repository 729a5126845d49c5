/-! the pairs join, filter (gen_21c.py) -/
def sTell (c : Int → Int) (ok : Prop) [Decidable ok] (f r d t q : Int) : Int × (Int → Int) := if ok then (if c 0 < 4 then (c 0, cTell c f r d t q) else (-5, c)) else (-1, c)
theorem two_join {LR : tLR} {l : Launch} {G : pG} (hL : LOk LR) {x1 x2 x3 x4 : Int} : Pair LR l G 2 mX11_join (0, 0) 3 mX12_join (0, 0) [(0, x1), (0, x2), (0, x3), (0, x4)] := by
  intro n K F E h
  have hK := h.KS
  have hF := h.FS
  have hC := h.2.1.1.2
  have hu := h.2.2.2.2.1
  have z0 : cz (E 3) 0 = E 3 0 := cz_in (by decide) (by decide)
  have b0 := hC.1
  have hs : ∀ s, s = sTell (cz (E 3)) ((0 ≤ x1 ∧ x1 < 3) ∧ (0 ≤ x2 ∧ x2 < 2) ∧ (0 ≤ x3 ∧ x3 < 3) ∧ (0 ≤ x4 ∧ x4 < 2) ∧ ¬ x1 = x3) 0 x1 x2 x3 x4 → ∀ F' E', ActC F E 1 s F' E' → PostC LR l G 3 mX12_join (0, 0) [(0, x1), (0, x2), (0, x3), (0, x4)] (n, K, F, E) (some (0, s.1)) (n, K, F', E') := by
    intro s es F' E' ha
    refine ⟨_, rfl, ek_out (actc_ek ha), hK, ?_⟩
    obtain ⟨e68, e66, e71, e72⟩ := actc_68 ha
    have hv : 0 ≤ s.1 ∨ s.1 = -1 ∨ s.1 = -2 ∨ s.1 = -3 ∨ s.1 = -5 ∨ s.1 = -6 := by
      rw [es]
      unfold sTell
      split
      · split <;> dsimp only <;> omega
      · dsimp only; omega
    have hci : 0 ≤ s.1 → CInv s.2 := by
      rw [es]
      unfold sTell
      split
      · rename_i ok
        split
        · exact fun _ => cinv_tell (cinv_cz hC) (by omega) (by omega) (by omega) (by omega) (by omega) (by omega) (by omega) (by omega)
        · exact fun q => absurd q (by dsimp only; omega)
      · exact fun q => absurd q (by dsimp only; omega)
    have e8 : pUp F' 66 0 0 66 8 = F 10 3 := by rw [pUp_k (by decide), e66]; exact hu.2.2.1
    have e6 : E' 68 6 = E 3 0 := by rw [e68]; exact h.2.1.1.1 0 (by decide) (by decide)
    have ec : cz (sh6 (E' 68)) = cz (E 3) := by rw [e68, rel_cz h.2.1.1.1]
    have hr := (rres_tell (bg := (0, 0)) (l := l) (Q := fun r μ => PW l G 3 mX12_join (0, 0) 58 [] (r.toList ++ []) μ (PostR LR G s.1 (n, K, F', E'))) hL h ha hv hci (by decide) fun F2 E2 hi ho => vX12_join_58 _ ⟨rfl, ek_out ho, hi⟩).mono (Q' := fun r μ => PW l G 3 mX12_join (0, 0) 55 [] (r.toList ++ [(2, 66)]) μ (PostR LR G s.1 (n, K, F', E'))) (fun v F' E' q => vX12_join_55 v 66 ⟨by rw [hK.k66], q v rfl⟩)
    have g : ∀ x, (x = 0 ∧ ¬ ((0 ≤ x1 ∧ x1 < 3) ∧ (0 ≤ x2 ∧ x2 < 2) ∧ (0 ≤ x3 ∧ x3 < 3) ∧ (0 ≤ x4 ∧ x4 < 2) ∧ ¬ x1 = x3)) ∨ (x = 1 ∧ ((0 ≤ x1 ∧ x1 < 3) ∧ (0 ≤ x2 ∧ x2 < 2) ∧ (0 ≤ x3 ∧ x3 < 3) ∧ (0 ≤ x4 ∧ x4 < 2) ∧ ¬ x1 = x3)) → PC l G 2 mX12_newOperator (0, 0) [(2, 66), (0, x), (0, 0), (0, x1), (0, x2), (0, x3), (0, x4)] (n, K, pUp F' 66 0 0, E') (fun r μ => PW l G 3 mX12_join (0, 0) 55 [] (r.toList ++ [(2, 66)]) μ (PostR LR G s.1 (n, K, F', E'))) := by
      intro x hx
      unfold sTell at es
      refine r_newOperator hK ((actc_fk hF ha).1.up (by decide +kernel)) (by rw [e8]; exact hu.2.1.1) (by rw [e8]; exact hu.2.1.2) (by omega) (by omega) (fun q => ?_) (fun q q2 => ?_) (fun q q2 => ?_)
      · rw [if_neg (by omega)] at es
        subst es
        exact hr.1 (by dsimp only; decide)
      · rw [if_pos (by omega), if_neg (by omega)] at es
        subst es
        exact hr.1 (by dsimp only; decide)
      · rw [if_pos (by omega), if_pos (by omega)] at es
        subst es
        rw [ec, e6, ← z0]
        exact hr.2 (by dsimp only; omega)
    refine vX12_join_0 66 x1 x2 x3 x4 ⟨by rw [hK.k66], fun F1 e1 => ?_⟩
    subst e1
    exact ⟨fun z => g 0 (Or.inl ⟨rfl, by omega⟩), fun a => ⟨fun z => g 0 (Or.inl ⟨rfl, by omega⟩), fun b => ⟨fun z => g 0 (Or.inl ⟨rfl, by omega⟩), fun c => ⟨fun z => g 0 (Or.inl ⟨rfl, by omega⟩), fun d => ⟨fun z => g 0 (Or.inl ⟨rfl, by omega⟩), fun z => g 1 (Or.inr ⟨rfl, by omega⟩)⟩⟩⟩⟩⟩
  have hno : ¬ ((0 ≤ x1 ∧ x1 < 3) ∧ (0 ≤ x2 ∧ x2 < 2) ∧ (0 ≤ x3 ∧ x3 < 3) ∧ (0 ≤ x4 ∧ x4 < 2) ∧ ¬ x1 = x3) → PostC LR l G 3 mX12_join (0, 0) [(0, x1), (0, x2), (0, x3), (0, x4)] (n, K, F, E) (some (0, -1)) (n, K, pUp F 0 16 (-1), pUp E 49 0 (w32 (E 49 0 + 1))) := fun q =>
    hs (-1, cz (E 3)) (by unfold sTell; rw [if_neg q]) _ _ (Or.inl ⟨by dsimp only; decide, rfl, rfl⟩)
  have hyes : (0 ≤ x1 ∧ x1 < 3) ∧ (0 ≤ x2 ∧ x2 < 2) ∧ (0 ≤ x3 ∧ x3 < 3) ∧ (0 ≤ x4 ∧ x4 < 2) ∧ ¬ x1 = x3 → PC l G 1 mX11_tell (0, 0) [(2, 0), (0, 0), (0, x1), (0, x2), (0, x3), (0, x4)] (n, K, F, E) (fun r μ => PW l G 2 mX11_join (0, 0) 50 [] (r.toList ++ []) μ (PostC LR l G 3 mX12_join (0, 0) [(0, x1), (0, x2), (0, x3), (0, x4)] (n, K, F, E))) := by
    intro ok
    refine c_tell hK hF hu.1.1 hu.1.2 hu.2.1.1 hu.2.1.2 b0.1 (fun q => ?_) (fun q => ?_)
    · exact vX11_join_50 _ (hs (-5, cz (E 3)) (by unfold sTell; rw [if_pos ok, if_neg (by omega)]) _ _ (Or.inl ⟨by dsimp only; decide, rfl, rfl⟩))
    · intro f s kd cl g a b c d e1 e2
      exact vX11_join_50 _ (hs (E 3 0, cTell (cz (E 3)) 0 x1 x2 x3 x4) (by unfold sTell; rw [if_pos ok, if_pos (by omega), z0]) _ _ (Or.inr ⟨b0.1, f, s, kd, cl, g, ⟨a, b, c, d⟩, e1, e2, rfl, rfl⟩))
  refine vX11_join_0 0 x1 x2 x3 x4 ?_
  simp only [hF.f0_13, hK.k0, hK.k49]
  refine ⟨?_, fun a => ⟨?_, fun b => ⟨?_, fun c => ⟨?_, fun d => ⟨fun e => ⟨trivial, hyes (by omega)⟩, ?_⟩⟩⟩⟩⟩
  all_goals exact fun z => ⟨trivial, fun F1 e1 => ⟨trivial, by decide, by decide, fun E2 e2 => by rw [e1, e2]; exact hno (by omega)⟩⟩
theorem two_filter {LR : tLR} {l : Launch} {G : pG} (hL : LOk LR) {x1 x2 x3 x4 : Int} : Pair LR l G 2 mX11_filter (0, 0) 3 mX12_filter (0, 0) [(0, x1), (0, x2), (0, x3), (0, x4)] := by
  intro n K F E h
  have hK := h.KS
  have hF := h.FS
  have hC := h.2.1.1.2
  have hu := h.2.2.2.2.1
  have z0 : cz (E 3) 0 = E 3 0 := cz_in (by decide) (by decide)
  have b0 := hC.1
  have hs : ∀ s, s = sTell (cz (E 3)) ((0 ≤ x1 ∧ x1 < 3) ∧ (0 ≤ x2 ∧ x2 < 2) ∧ (0 ≤ x3 ∧ x3 < 3) ∧ (0 ≤ x4 ∧ x4 < 10)) 1 x1 x2 x3 x4 → ∀ F' E', ActC F E 1 s F' E' → PostC LR l G 3 mX12_filter (0, 0) [(0, x1), (0, x2), (0, x3), (0, x4)] (n, K, F, E) (some (0, s.1)) (n, K, F', E') := by
    intro s es F' E' ha
    refine ⟨_, rfl, ek_out (actc_ek ha), hK, ?_⟩
    obtain ⟨e68, e66, e71, e72⟩ := actc_68 ha
    have hv : 0 ≤ s.1 ∨ s.1 = -1 ∨ s.1 = -2 ∨ s.1 = -3 ∨ s.1 = -5 ∨ s.1 = -6 := by
      rw [es]
      unfold sTell
      split
      · split <;> dsimp only <;> omega
      · dsimp only; omega
    have hci : 0 ≤ s.1 → CInv s.2 := by
      rw [es]
      unfold sTell
      split
      · rename_i ok
        split
        · exact fun _ => cinv_tell (cinv_cz hC) (by omega) (by omega) (by omega) (by omega) (by omega) (by omega) (by omega) (by omega)
        · exact fun q => absurd q (by dsimp only; omega)
      · exact fun q => absurd q (by dsimp only; omega)
    have e8 : pUp F' 66 0 0 66 8 = F 10 3 := by rw [pUp_k (by decide), e66]; exact hu.2.2.1
    have e6 : E' 68 6 = E 3 0 := by rw [e68]; exact h.2.1.1.1 0 (by decide) (by decide)
    have ec : cz (sh6 (E' 68)) = cz (E 3) := by rw [e68, rel_cz h.2.1.1.1]
    have hr := (rres_tell (bg := (0, 0)) (l := l) (Q := fun r μ => PW l G 3 mX12_filter (0, 0) 63 [] (r.toList ++ []) μ (PostR LR G s.1 (n, K, F', E'))) hL h ha hv hci (by decide) fun F2 E2 hi ho => vX12_filter_63 _ ⟨rfl, ek_out ho, hi⟩).mono (Q' := fun r μ => PW l G 3 mX12_filter (0, 0) 60 [] (r.toList ++ [(2, 66)]) μ (PostR LR G s.1 (n, K, F', E'))) (fun v F' E' q => vX12_filter_60 v 66 ⟨by rw [hK.k66], q v rfl⟩)
    have g : ∀ x, (x = 0 ∧ ¬ ((0 ≤ x1 ∧ x1 < 3) ∧ (0 ≤ x2 ∧ x2 < 2) ∧ (0 ≤ x3 ∧ x3 < 3) ∧ (0 ≤ x4 ∧ x4 < 10))) ∨ (x = 1 ∧ ((0 ≤ x1 ∧ x1 < 3) ∧ (0 ≤ x2 ∧ x2 < 2) ∧ (0 ≤ x3 ∧ x3 < 3) ∧ (0 ≤ x4 ∧ x4 < 10))) → PC l G 2 mX12_newOperator (0, 0) [(2, 66), (0, x), (0, 1), (0, x1), (0, x2), (0, x3), (0, x4)] (n, K, pUp F' 66 0 0, E') (fun r μ => PW l G 3 mX12_filter (0, 0) 60 [] (r.toList ++ [(2, 66)]) μ (PostR LR G s.1 (n, K, F', E'))) := by
      intro x hx
      unfold sTell at es
      refine r_newOperator hK ((actc_fk hF ha).1.up (by decide +kernel)) (by rw [e8]; exact hu.2.1.1) (by rw [e8]; exact hu.2.1.2) (by omega) (by omega) (fun q => ?_) (fun q q2 => ?_) (fun q q2 => ?_)
      · rw [if_neg (by omega)] at es
        subst es
        exact hr.1 (by dsimp only; decide)
      · rw [if_pos (by omega), if_neg (by omega)] at es
        subst es
        exact hr.1 (by dsimp only; decide)
      · rw [if_pos (by omega), if_pos (by omega)] at es
        subst es
        rw [ec, e6, ← z0]
        exact hr.2 (by dsimp only; omega)
    refine vX12_filter_0 66 x1 x2 x3 x4 ⟨by rw [hK.k66], fun F1 e1 => ?_⟩
    subst e1
    exact ⟨fun z => g 0 (Or.inl ⟨rfl, by omega⟩), fun a => ⟨fun z => g 0 (Or.inl ⟨rfl, by omega⟩), fun b => ⟨fun z => g 0 (Or.inl ⟨rfl, by omega⟩), fun c => ⟨fun z => g 0 (Or.inl ⟨rfl, by omega⟩), fun d => g 1 (Or.inr ⟨rfl, by omega⟩)⟩⟩⟩⟩
  have hno : ¬ ((0 ≤ x1 ∧ x1 < 3) ∧ (0 ≤ x2 ∧ x2 < 2) ∧ (0 ≤ x3 ∧ x3 < 3) ∧ (0 ≤ x4 ∧ x4 < 10)) → PostC LR l G 3 mX12_filter (0, 0) [(0, x1), (0, x2), (0, x3), (0, x4)] (n, K, F, E) (some (0, -1)) (n, K, pUp F 0 16 (-1), pUp E 49 0 (w32 (E 49 0 + 1))) := fun q =>
    hs (-1, cz (E 3)) (by unfold sTell; rw [if_neg q]) _ _ (Or.inl ⟨by dsimp only; decide, rfl, rfl⟩)
  have hyes : (0 ≤ x1 ∧ x1 < 3) ∧ (0 ≤ x2 ∧ x2 < 2) ∧ (0 ≤ x3 ∧ x3 < 3) ∧ (0 ≤ x4 ∧ x4 < 10) → PC l G 1 mX11_tell (0, 0) [(2, 0), (0, 1), (0, x1), (0, x2), (0, x3), (0, x4)] (n, K, F, E) (fun r μ => PW l G 2 mX11_filter (0, 0) 47 [] (r.toList ++ []) μ (PostC LR l G 3 mX12_filter (0, 0) [(0, x1), (0, x2), (0, x3), (0, x4)] (n, K, F, E))) := by
    intro ok
    refine c_tell hK hF hu.1.1 hu.1.2 hu.2.1.1 hu.2.1.2 b0.1 (fun q => ?_) (fun q => ?_)
    · exact vX11_filter_47 _ (hs (-5, cz (E 3)) (by unfold sTell; rw [if_pos ok, if_neg (by omega)]) _ _ (Or.inl ⟨by dsimp only; decide, rfl, rfl⟩))
    · intro f s kd cl g a b c d e1 e2
      exact vX11_filter_47 _ (hs (E 3 0, cTell (cz (E 3)) 1 x1 x2 x3 x4) (by unfold sTell; rw [if_pos ok, if_pos (by omega), z0]) _ _ (Or.inr ⟨b0.1, f, s, kd, cl, g, ⟨a, b, c, d⟩, e1, e2, rfl, rfl⟩))
  refine vX11_filter_0 0 x1 x2 x3 x4 ?_
  simp only [hF.f0_13, hK.k0, hK.k49]
  refine ⟨?_, fun a => ⟨?_, fun b => ⟨?_, fun c => ⟨?_, fun d => ⟨fun e => ⟨trivial, hyes (by omega)⟩, ?_⟩⟩⟩⟩⟩
  all_goals exact fun z => ⟨trivial, fun F1 e1 => ⟨trivial, by decide, by decide, fun E2 e2 => by rw [e1, e2]; exact hno (by omega)⟩⟩
