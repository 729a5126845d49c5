/-! the pairs strike, window, index -/
section P
variable {n : Nat} {K : Int → Nat × Nat} {F E : Int → Int → Int} {Q Q' : Option pV → pM → Prop} {s : Int × (Int → Int)} {sort : Int}
theorem CRes.mono (h : CRes n K F E Q sort s) (hQ : ∀ v F' E', Q (some (0, v)) (n, K, F', E') → Q' (some (0, v)) (n, K, F', E')) : CRes n K F E Q' sort s :=
  ⟨fun z => hQ _ _ _ (h.1 z), fun z f y kd cl g a b c d e1 e2 => hQ _ _ _ (h.2 z f y kd cl g a b c d e1 e2)⟩
theorem RRes.mono (h : RRes n K F E Q sort s) (hQ : ∀ v F' E', Q (some (0, v)) (n, K, F', E') → Q' (some (0, v)) (n, K, F', E')) : RRes n K F E Q' sort s :=
  ⟨fun z => hQ _ _ _ (h.1 z), fun z nu un so g a b c d e => hQ _ _ _ (h.2 z nu un so g a b c d e)⟩
end P
theorem sStrike_v {c : Int → Int} {o : Int} : 0 ≤ (sStrike c o).1 ∨ (sStrike c o).1 = -1 ∨ (sStrike c o).1 = -2 ∨ (sStrike c o).1 = -3 ∨ (sStrike c o).1 = -5 ∨ (sStrike c o).1 = -6 := by
  unfold sStrike
  split <;> dsimp only <;> omega
theorem sWindow_v {c : Int → Int} {r w : Int} : 0 ≤ (sWindow c r w).1 ∨ (sWindow c r w).1 = -1 ∨ (sWindow c r w).1 = -2 ∨ (sWindow c r w).1 = -3 ∨ (sWindow c r w).1 = -5 ∨ (sWindow c r w).1 = -6 := by
  unfold sWindow
  split
  · split <;> dsimp only <;> omega
  · dsimp only; omega
theorem sIndex_v {c : Int → Int} {r i : Int} (h : ∀ r, 0 ≤ r → r < 3 → 0 ≤ c (6 + r)) : 0 ≤ (sIndex c r i).1 ∨ (sIndex c r i).1 = -1 ∨ (sIndex c r i).1 = -2 ∨ (sIndex c r i).1 = -3 ∨ (sIndex c r i).1 = -5 ∨ (sIndex c r i).1 = -6 := by
  unfold sIndex
  split
  · rename_i z
    have := h r z.1.1 z.1.2
    split <;> dsimp only <;> omega
  · dsimp only; omega
theorem two_strike {LR : tLR} {l : Launch} {G : pG} (hL : LOk LR) {x1 : Int} : Pair LR l G 2 mX11_strike (0, 0) 3 mX12_strike (0, 0) [(0, x1)] := by
  intro n K F E h
  have hK := h.KS
  have hF := h.FS
  have hC := h.2.1.1.2
  have hu := h.2.2.2.2.1
  refine vX11_strike_0 0 x1 ⟨by rw [hK.k0], c_strikeOut hK hF hu.1.1 hu.1.2 hu.2.1.1 hu.2.1.2 hC.1.2 ?_⟩
  refine (cres_settle (bg := (0, 0)) (l := l) (G := G) (Q := fun r μ => PW l G 2 mX11_strike (0, 0) 9 [] (r.toList ++ []) μ _) hK hF sStrike_v fun F' E' ha => vX11_strike_9 _ ⟨_, rfl, ek_out (actc_ek ha), hK, ?_⟩).mono (fun v F' E' q => vX11_strike_6 v 0 ⟨by rw [hK.k0], q v rfl⟩)
  refine vX12_strike_0 66 x1 ⟨by rw [hK.k66], fun F1 e1 => ?_⟩
  subst e1
  obtain ⟨e68, e66, e71, e72⟩ := actc_68 ha
  have hs : sStrike (cz (sh6 (E' 68))) x1 = sStrike (cz (E 3)) x1 := by rw [e68, rel_cz h.2.1.1.1]
  have e8 : pUp F' 66 0 0 66 8 = F 10 3 := by rw [pUp_k (by decide), e66]; exact hu.2.2.1
  have e6 : E' 68 6 = E 3 0 := by rw [e68]; exact h.2.1.1.1 0 (by decide) (by decide)
  refine r_strikeNow hK ((actc_fk hF ha).1.up (by decide +kernel)) (by rw [e8]; exact hu.2.1.1) (by rw [e8]; exact hu.2.1.2) (by rw [e6]; exact hC.1.2) ?_ (by rw [e6]; exact hC.1.1)
  rw [hs]
  exact (rres_tell (bg := (0, 0)) (l := l) (Q := fun r μ => PW l G 3 mX12_strike (0, 0) 14 [] (r.toList ++ []) μ _) hL h ha sStrike_v (fun _ => (cinv_acts (cinv_cz hC)).1 _) (by decide) fun F2 E2 hi ho => vX12_strike_14 _ ⟨rfl, ek_out ho, hi⟩).mono (fun v F' E' q => vX12_strike_11 v 66 ⟨by rw [hK.k66], q v rfl⟩)
theorem two_window {LR : tLR} {l : Launch} {G : pG} (hL : LOk LR) {x1 x2 : Int} : Pair LR l G 3 mX11_window (0, 0) 3 mX12_window (0, 0) [(0, x1), (0, x2)] := by
  intro n K F E h
  have hK := h.KS
  have hF := h.FS
  have hC := h.2.1.1.2
  have hu := h.2.2.2.2.1
  have h9 : ∀ r, 0 ≤ r → r < 3 → 0 ≤ E 3 (9 + r) ∧ E 3 (9 + r) ≤ 9 := fun r a b => by
    have := hC.2.2.2.1 r a b
    omega
  refine vX11_window_0 0 x1 x2 ⟨by rw [hK.k0], c_changeWindow hK hF hu.1.1 hu.1.2 hu.2.1.1 hu.2.1.2 h9 ?_⟩
  refine (cres_settle (bg := (0, 0)) (l := l) (G := G) (Q := fun r μ => PW l G 3 mX11_window (0, 0) 10 [] (r.toList ++ []) μ _) hK hF sWindow_v fun F' E' ha => vX11_window_10 _ ⟨_, rfl, ek_out (actc_ek ha), hK, ?_⟩).mono (fun v F' E' q => vX11_window_7 v 0 ⟨by rw [hK.k0], q v rfl⟩)
  refine vX12_window_0 66 x1 x2 ⟨by rw [hK.k66], fun F1 e1 => ?_⟩
  subst e1
  obtain ⟨e68, e66, e71, e72⟩ := actc_68 ha
  have hs : sWindow (cz (sh6 (E' 68))) x1 x2 = sWindow (cz (E 3)) x1 x2 := by rw [e68, rel_cz h.2.1.1.1]
  have e8 : pUp F' 66 0 0 66 8 = F 10 3 := by rw [pUp_k (by decide), e66]; exact hu.2.2.1
  refine r_windowNow hK ((actc_fk hF ha).1.up (by decide +kernel)) (by rw [e8]; exact hu.2.1.1) (by rw [e8]; exact hu.2.1.2) (fun r a b => ?_) ?_
  · rw [e68, show (15 : Int) + r = 9 + r + 6 by omega, h.2.1.1.1 (9 + r) (by omega) (by omega)]
    exact h9 r a b
  rw [hs]
  exact (rres_tell (bg := (0, 0)) (l := l) (Q := fun r μ => PW l G 3 mX12_window (0, 0) 15 [] (r.toList ++ []) μ _) hL h ha sWindow_v (fun _ => (cinv_acts (cinv_cz hC)).2.1 _ _) (by decide) fun F2 E2 hi ho => vX12_window_15 _ ⟨rfl, ek_out ho, hi⟩).mono (fun v F' E' q => vX12_window_12 v 66 ⟨by rw [hK.k66], q v rfl⟩)
theorem two_index {LR : tLR} {l : Launch} {G : pG} (hL : LOk LR) {x1 x2 : Int} : Pair LR l G 2 mX11_index (0, 0) 3 mX12_index (0, 0) [(0, x1), (0, x2)] := by
  intro n K F E h
  have hK := h.KS
  have hF := h.FS
  have hC := h.2.1.1.2
  have hu := h.2.2.2.2.1
  have h6 : ∀ r, 0 ≤ r → r < 3 → 0 ≤ E 3 (6 + r) := fun r a b => (hC.2.2.2.1 r a b).2.1.1
  have h6' : ∀ r, 0 ≤ r → r < 3 → 0 ≤ cz (E 3) (6 + r) := fun r a b => by rw [cz_in (by omega) (by omega)]; exact h6 r a b
  refine vX11_index_0 0 x1 x2 ⟨by rw [hK.k0], c_changeIndex hK hF hu.1.1 hu.1.2 hu.2.1.1 hu.2.1.2 h6 ?_⟩
  refine (cres_settle (bg := (0, 0)) (l := l) (G := G) (Q := fun r μ => PW l G 2 mX11_index (0, 0) 10 [] (r.toList ++ []) μ _) hK hF (sIndex_v h6') fun F' E' ha => vX11_index_10 _ ⟨_, rfl, ek_out (actc_ek ha), hK, ?_⟩).mono (fun v F' E' q => vX11_index_7 v 0 ⟨by rw [hK.k0], q v rfl⟩)
  refine vX12_index_0 66 x1 x2 ⟨by rw [hK.k66], fun F1 e1 => ?_⟩
  subst e1
  obtain ⟨e68, e66, e71, e72⟩ := actc_68 ha
  have hs : sIndex (cz (sh6 (E' 68))) x1 x2 = sIndex (cz (E 3)) x1 x2 := by rw [e68, rel_cz h.2.1.1.1]
  have e8 : pUp F' 66 0 0 66 8 = F 10 3 := by rw [pUp_k (by decide), e66]; exact hu.2.2.1
  refine r_indexNow hK ((actc_fk hF ha).1.up (by decide +kernel)) (by rw [e8]; exact hu.2.1.1) (by rw [e8]; exact hu.2.1.2) (fun r a b => ?_) ?_
  · rw [e68, show (12 : Int) + r = 6 + r + 6 by omega, h.2.1.1.1 (6 + r) (by omega) (by omega)]
    exact h6 r a b
  rw [hs]
  exact (rres_tell (bg := (0, 0)) (l := l) (Q := fun r μ => PW l G 3 mX12_index (0, 0) 15 [] (r.toList ++ []) μ _) hL h ha (sIndex_v h6') (fun _ => (cinv_acts (cinv_cz hC)).2.2 _ _) (by decide) fun F2 E2 hi ho => vX12_index_15 _ ⟨rfl, ek_out ho, hi⟩).mono (fun v F' E' q => vX12_index_12 v 66 ⟨by rw [hK.k66], q v rfl⟩)
