/-! the reference's acts -/
section A
variable {l : Launch} {G : pG} {bg : Nat × Nat} {n : Nat} {K : Int → Nat × Nat} {F E : Int → Int → Int} {Q : Option pV → pM → Prop}
theorem r_dropEldest_15 {r m h : Int} (hK : KS K) (hF : FS F) (r0 : 0 ≤ r) (r1 : r < 3) (m0 : 0 ≤ m) (h0 : 0 ≤ h) (hm : h + m ≤ 9) (t : Nat) : ∀ (i : Int) (E : Int → Int → Int), E 68 (15 + r) = h → i + t = 3 * h → 0 ≤ i → Q none (n, K, F, pRow E 68 (rSh (E 68) (42 + 27 * r + i) (42 + 27 * r + 3 * h) (3 * m))) → PW l G 1 mX12_dropEldest bg 15 [(0, (2, 66)), (1, (0, r)), (2, (0, m)), (3, (0, i))] [] (n, K, F, E) Q := by
  induction t with
  | zero =>
    intro i E eh e i0 q
    refine vX12_dropEldest_15 66 r m i ?_
    simp only [hF.f66_3, hK.k66, hK.k68, eh]
    refine ⟨trivial, by omega, trivial, by omega, by omega, fun _ => ?_, fun z => absurd (by omega) z⟩
    rw [rSh_none (by omega), pRow_self] at q
    exact q
  | succ t ih =>
    intro i E eh e i0 q
    refine vX12_dropEldest_15 66 r m i ?_
    simp only [hF.f66_3, hK.k66, hK.k68, eh]
    refine ⟨trivial, by omega, trivial, by omega, by omega, fun z => absurd z (by omega), fun _ => ⟨by omega, by omega, by omega, by omega, by omega, by omega, by omega, by omega, fun a1 e1 => ⟨by decide, by omega, fun E2 e2 => ⟨by omega, ?_⟩⟩⟩⟩
    refine ih (i + 1) _ ?_ (by omega) (by omega) ?_
    · rw [e2, pUp_k (by omega)]
      exact eh
    · rw [e2, e1, show 42 + 27 * r + 0 + i = 42 + 27 * r + i by omega, show 42 + 27 * r + 3 * m + i = 42 + 27 * r + i + 3 * m by omega, show 42 + 27 * r + (i + 1) = 42 + 27 * r + i + 1 by omega, sh_step (by omega) (by omega)]
      exact q
/-- the oldest go -/
theorem r_dropEldest {r m : Int} (hK : KS K) (hF : FS F) (r0 : 0 ≤ r) (r1 : r < 3) (m0 : 0 ≤ m) (m1 : m ≤ E 68 (15 + r)) (h9 : E 68 (15 + r) ≤ 9) (hQ : ∀ g, sh6 g = cDrop (sh6 (E 68)) r m → (∀ j, (j < 6 ∨ 123 ≤ j) → g j = E 68 j) → Q none (n, K, F, pRow E 68 g)) : PC l G 1 mX12_dropEldest bg [(2, 66), (0, r), (0, m)] (n, K, F, E) Q := by
  refine vX12_dropEldest_0 66 r m ?_
  simp only [hF.f66_3, hK.k66, hK.k68]
  refine ⟨trivial, by omega, trivial, by omega, by omega, by decide, fun E1 e1 => ?_⟩
  refine r_dropEldest_15 (h := E 68 (15 + r) - m) hK hF r0 r1 m0 (by omega) (by omega) (3 * (E 68 (15 + r) - m)).toNat 0 _ (by rw [e1, pUp_s]) (by omega) (by omega) ?_
  rw [e1, pUp_row, pRow_row, pRow_at]
  refine hQ _ ?_ (fun j hj => ?_)
  · unfold cDrop
    have s9 : sh6 (E 68) (9 + r) = E 68 (15 + r) := by unfold sh6; congr 1; omega
    rw [s9, sh6_sh (lo := 36 + r * 9 * 3) (hi := 36 + r * 9 * 3 + (E 68 (15 + r) - m) * 3) (d := m * 3) (by omega) (by omega) (by omega), sh6_up (k := 9 + r) (by omega)]
  · unfold rSh
    rw [if_neg (by omega), rUp_n (by omega)]
theorem r_strikeNow_32 {h : Int} (hK : KS K) (hF : FS F) (h0 : 0 ≤ h) (h1 : h < 4) (t : Nat) : ∀ (i : Int) (E : Int → Int → Int), E 68 6 = h → i + t = 18 + 6 * h → 18 ≤ i → Q (some (0, h)) (n, K, F, pRow E 68 (rSh (E 68) i (18 + 6 * h) 6)) → PW l G 2 mX12_strikeNow bg 32 [(0, (2, 66)), (2, (0, i))] [] (n, K, F, E) Q := by
  induction t with
  | zero =>
    intro i E eh e i0 q
    refine vX12_strikeNow_32 66 i ?_
    simp only [hF.f66_3, hK.k66, hK.k68, eh]
    refine ⟨trivial, trivial, by decide, by omega, by omega, fun _ => ?_, fun z => absurd (by omega) z⟩
    rw [rSh_none (by omega), pRow_self] at q
    exact q
  | succ t ih =>
    intro i E eh e i0 q
    refine vX12_strikeNow_32 66 i ?_
    simp only [hF.f66_3, hK.k66, hK.k68, eh]
    refine ⟨trivial, trivial, by decide, by omega, by omega, fun z => absurd z (by omega), fun _ => ⟨by omega, by omega, by decide, by omega, fun E1 e1 => ⟨by omega, ?_⟩⟩⟩
    refine ih (i + 1) _ ?_ (by omega) (by omega) ?_
    · rw [e1, pUp_k (by omega)]
      exact eh
    · rw [e1, sh_step (by omega) (by omega)]
      exact q
theorem sh6_at {g : Int → Int} {k j : Int} (h : j = k + 6) : sh6 g k = g j := by unfold sh6; rw [h]
theorem czs_at {g : Int → Int} {k j : Int} (h0 : 0 ≤ k) (h1 : k < 117) (h : j = k + 6) : cz (sh6 g) k = g j := by rw [cz_in h0 h1, sh6_at h]
theorem r_strikeNow {o : Int} (hK : KS K) (hF : FS F) (s0 : 0 ≤ F 66 8) (s1 : F 66 8 ≤ 16) (o2 : E 68 6 ≤ 4) (h : RRes n K F E Q 2 (sStrike (cz (sh6 (E 68))) o)) (o1 : 0 ≤ E 68 6) : PC l G 2 mX12_strikeNow bg [(2, 66), (0, o)] (n, K, F, E) Q := by
  refine vX12_strikeNow_0 66 o ?_
  have z0 : cz (sh6 (E 68)) 0 = E 68 6 := czs_at (by decide) (by decide) (by decide)
  unfold sStrike at h
  simp only [hF.f66_3, hK.k66, hK.k68]
  refine ⟨trivial, trivial, by decide, by omega, fun z => ?_, fun z => ?_⟩
  · rw [if_pos (by omega)] at h
    refine r_remember hK hF s0 s1 fun nu un so a b e u => ?_
    have hF' : FS (pUp F 66 8 nu) := hF.up (by decide +kernel)
    have eE : pRow (pRow E 71 un) 72 so 68 = E 68 := by rw [pRow_ne (by decide), pRow_ne (by decide)]
    refine vX12_strikeNow_16 66 o ?_
    simp only [hF'.f66_3, hK.k66, hK.k68, eE]
    refine ⟨trivial, trivial, by decide, by omega, by decide, fun E1 e1 => ⟨by omega, by omega, ?_⟩⟩
    refine r_strikeNow_32 (h := E 68 6 - 1) hK hF' (by omega) (by omega) (6 * (E 68 6 - 1) - 6 * o).toNat _ _ (by rw [e1, pUp_s]) (by omega) (by omega) ?_
    rw [e1, pUp_row (E := pRow (pRow E 71 un) 72 so), pRow_row, pRow_at, eE]
    have h2 := h.2 (show (0 : Int) ≤ cz (sh6 (E 68)) 0 - 1 by omega)
    rw [z0] at h2
    refine h2 nu un so _ a b e u ⟨?_, fun j hj => ?_⟩
    · have s6 : sh6 (E 68) 0 = E 68 6 := sh6_at (by decide)
      rw [sh6_sh (lo := 12 + o * 6) (hi := 12 + (E 68 6 - 1) * 6) (d := 6) (by omega) (by omega) rfl, sh6_up (k := 0) (by decide), ← cz_strike z.1 (by omega) (by omega)]
      unfold cStrike
      rw [s6]
    · unfold rSh
      rw [if_neg (by omega), rUp_n (by omega)]
  · rw [if_neg (by omega)] at h
    exact h.1 (by dsimp only; decide)
theorem r_windowNow {r w : Int} (hK : KS K) (hF : FS F) (s0 : 0 ≤ F 66 8) (s1 : F 66 8 ≤ 16) (hC : ∀ r, 0 ≤ r → r < 3 → 0 ≤ E 68 (15 + r) ∧ E 68 (15 + r) ≤ 9) (h : RRes n K F E Q 3 (sWindow (cz (sh6 (E 68))) r w)) : PC l G 2 mX12_windowNow bg [(2, 66), (0, r), (0, w)] (n, K, F, E) Q := by
  refine vX12_windowNow_0 66 r w ?_
  unfold sWindow at h
  simp only [hF.f66_3, hK.k66, hK.k68]
  refine ⟨fun z => ?_, fun z => ⟨fun y => ⟨trivial, by omega, trivial, by omega, fun t => ?_, fun t => ?_⟩, fun y => ?_⟩⟩
  · rw [if_neg (by omega)] at h
    exact h.1 (by dsimp only; decide)
  · have z3 : cz (sh6 (E 68)) (3 + r) = E 68 (9 + r) := czs_at (by omega) (by omega) (by omega)
    have z9 : cz (sh6 (E 68)) (9 + r) = E 68 (15 + r) := czs_at (by omega) (by omega) (by omega)
    have b9 := hC r z.1 z.2
    rw [if_pos (by omega), if_neg (by omega)] at h
    have h2 := h.2 (show (0 : Int) ≤ max 0 (cz (sh6 (E 68)) (9 + r) - w) by omega)
    rw [z9] at h2
    refine r_remember hK hF s0 s1 fun nu un so a b e u => ?_
    have hF' : FS (pUp F 66 8 nu) := hF.up (by decide +kernel)
    have eE : pRow (pRow E 71 un) 72 so 68 = E 68 := by rw [pRow_ne (by decide), pRow_ne (by decide)]
    refine vX12_windowNow_42 66 r w ?_
    simp only [hF'.f66_3, hK.k66, hK.k68]
    refine ⟨trivial, by omega, by decide, trivial, by omega, fun E1 e1 => ?_⟩
    have e15 : E1 68 (15 + r) = E 68 (15 + r) := by rw [e1, pUp_k (by omega), eE]
    have q1 : E1 = pRow (pRow (pRow E 71 un) 72 so) 68 (rUp (E 68) (9 + r) w) := by rw [e1, pUp_row, eE]
    have fin : ∀ m, m = max 0 (E 68 (15 + r) - w) → ∀ g, sh6 g = cDrop (sh6 (E1 68)) r m → (∀ j, (j < 6 ∨ 123 ≤ j) → g j = E1 68 j) → Q (some (0, m)) (n, K, pUp F 66 8 nu, pRow E1 68 g) := by
      intro m em g hg ho
      rw [em, q1, pRow_row]
      refine h2 nu un so g a b e u ⟨?_, fun j hj => ?_⟩
      · have s9 : sh6 (E 68) (9 + r) = E 68 (15 + r) := sh6_at (by omega)
        rw [hg, q1, pRow_at, sh6_up (k := 3 + r) (by omega), ← cz_win z.1 z.2 (by omega)]
        unfold cWin
        rw [s9, em]
      · rw [ho j hj, q1, pRow_at, rUp_n (by omega)]
    rw [e15]
    refine ⟨by omega, by omega, fun y2 => ?_, fun y2 => ⟨by omega, ?_⟩⟩
    · refine r_dropEldest hK hF' z.1 z.2 (by omega) (by omega) (by omega) fun g hg ho => vX12_windowNow_87 _ (fin 0 (by omega) g hg ho)
    · refine r_dropEldest hK hF' z.1 z.2 (by omega) (by omega) (by omega) fun g hg ho => vX12_windowNow_87 _ (fin _ (by omega) g hg ho)
  · rw [if_pos (by omega), if_pos (by rw [czs_at (by omega) (by omega) (show 9 + r = 3 + r + 6 by omega)]; exact t)] at h
    exact h.1 (by dsimp only; decide)
  · rw [if_neg (by omega)] at h
    exact h.1 (by dsimp only; decide)
theorem r_indexNow {r w : Int} (hK : KS K) (hF : FS F) (s0 : 0 ≤ F 66 8) (s1 : F 66 8 ≤ 16) (hC : ∀ r, 0 ≤ r → r < 3 → 0 ≤ E 68 (12 + r)) (h : RRes n K F E Q 4 (sIndex (cz (sh6 (E 68))) r w)) : PC l G 2 mX12_indexNow bg [(2, 66), (0, r), (0, w)] (n, K, F, E) Q := by
  refine vX12_indexNow_0 66 r w ?_
  unfold sIndex at h
  simp only [hF.f66_3, hK.k66, hK.k68]
  refine ⟨fun z => ?_, fun z => ⟨fun y => ⟨trivial, by omega, trivial, by omega, fun t => ?_, fun t => ?_⟩, fun y => ?_⟩⟩
  · rw [if_neg (by omega)] at h
    exact h.1 (by dsimp only; decide)
  · have z6 : cz (sh6 (E 68)) (6 + r) = E 68 (12 + r) := czs_at (by omega) (by omega) (by omega)
    have b6 := hC r z.1 z.2
    rw [if_pos (by omega), if_neg (by omega)] at h
    have h2 := h.2 (show (0 : Int) ≤ cz (sh6 (E 68)) (6 + r) by omega)
    rw [z6] at h2
    refine r_remember hK hF s0 s1 fun nu un so a b e u => ?_
    have hF' : FS (pUp F 66 8 nu) := hF.up (by decide +kernel)
    have eE : pRow (pRow E 71 un) 72 so 68 = E 68 := by rw [pRow_ne (by decide), pRow_ne (by decide)]
    refine vX12_indexNow_44 66 r w _ ?_
    simp only [hF'.f66_3, hK.k66, hK.k68]
    refine ⟨trivial, by omega, by decide, trivial, by omega, fun E1 e1 => ?_⟩
    rw [e1, pUp_row (E := pRow (pRow E 71 un) 72 so), eE]
    refine h2 nu un so _ a b e u ⟨?_, fun j hj => rUp_n (by omega)⟩
    rw [sh6_up (k := 6 + r) (by omega), ← cz_idx z.1 z.2]
    rfl
  · rw [if_pos (by omega), if_pos (by rw [czs_at (by omega) (by omega) (show 12 + r = 6 + r + 6 by omega)]; exact t)] at h
    exact h.1 (by dsimp only; decide)
  · rw [if_neg (by omega)] at h
    exact h.1 (by dsimp only; decide)


theorem r_newOperator {x f r d t q : Int} (hK : KS K) (hF : FS F) (s0 : 0 ≤ F 66 8) (s1 : F 66 8 ≤ 16) (o1 : 0 ≤ E 68 6) (o2 : E 68 6 ≤ 4) (h1 : x = 0 → Q (some (0, -1)) (n, K, F, E)) (h2 : x ≠ 0 → E 68 6 = 4 → Q (some (0, -5)) (n, K, F, E)) (h3 : x ≠ 0 → E 68 6 < 4 → RAct n K F E Q 1 (E 68 6) (cTell (cz (sh6 (E 68))) f r d t q)) : PC l G 2 mX12_newOperator bg [(2, 66), (0, x), (0, f), (0, r), (0, d), (0, t), (0, q)] (n, K, F, E) Q := by
  refine vX12_newOperator_0 66 x f r d t q ?_
  simp only [hF.f66_3, hK.k66, hK.k68]
  refine ⟨fun z => ⟨trivial, trivial, by decide, fun y => ?_, fun y => h2 z y⟩, h1⟩
  refine r_remember hK hF s0 s1 fun nu un so a b e u => ?_
  have hF' : FS (pUp F 66 8 nu) := hF.up (by decide +kernel)
  have eE : pRow (pRow E 71 un) 72 so 68 = E 68 := by rw [pRow_ne (by decide), pRow_ne (by decide)]
  refine vX12_newOperator_29 66 f r d t q _ ?_
  simp only [hF'.f66_3, hK.k66, hK.k68]
  refine ⟨by omega, by omega, trivial, by omega, by decide, trivial, by omega, fun E1 e1 => ⟨by omega, by omega, fun E2 e2 => ⟨by omega, by omega, fun E3 e3 => ⟨by omega, by omega, fun E4 e4 => ⟨by omega, by omega, fun E5 e5 => ⟨by omega, by omega, fun E6 e6 => ?_⟩⟩⟩⟩⟩⟩
  have e66 : E6 68 6 = E 68 6 := by rw [e6, pUp_k (by omega), e5, pUp_k (by omega), e4, pUp_k (by omega), e3, pUp_k (by omega), e2, pUp_k (by omega), e1, pUp_k (by omega), eE]
  rw [e66]
  refine ⟨by decide, by omega, fun E7 e7 => ?_⟩
  subst e7 e6 e5 e4 e3 e2 e1
  have h4 := fun g => h3 z (by omega) nu un so g a b e u
  generalize pUp F 66 8 nu = F2 at h4 ⊢
  simp only [pUp_row, pRow_row, pRow_at, eE]
  refine h4 _ ⟨?_, fun j hj => ?_⟩
  · have z0 : sh6 (E 68) 0 = E 68 6 := sh6_at (by decide)
    rw [sh6_up (k := 0) (by decide), sh6_up (k := 12 + E 68 6 * 6 + 5) (by omega), sh6_up (k := 12 + E 68 6 * 6 + 4) (by omega), sh6_up (k := 12 + E 68 6 * 6 + 3) (by omega), sh6_up (k := 12 + E 68 6 * 6 + 2) (by omega), sh6_up (k := 12 + E 68 6 * 6 + 1) (by omega), sh6_up (k := 12 + E 68 6 * 6) (by omega), ← cz_tell (by omega) (by omega)]
    unfold cTell
    rw [z0]
  · rw [rUp_n (by omega), rUp_n (by omega), rUp_n (by omega), rUp_n (by omega), rUp_n (by omega), rUp_n (by omega), rUp_n (by omega)]
/-- the class's tell, where there is room and where there is none -/
theorem c_tell {f r d t q : Int} (hK : KS K) (hF : FS F) (f0 : 0 ≤ F 10 2) (f1 : F 10 2 < 16) (s0 : 0 ≤ F 10 3) (s1 : F 10 3 ≤ 16) (o1 : 0 ≤ E 3 0) (h1 : 4 ≤ E 3 0 → Q (some (0, -5)) (n, K, pUp F 0 16 (-5), pUp E 49 3 (w32 (E 49 3 + 1)))) (h2 : E 3 0 < 4 → CAct n K F E (fun r μ => Q r (μ.1, μ.2.1, pUp μ.2.2.1 0 16 0, μ.2.2.2)) 1 (E 3 0) (cTell (cz (E 3)) f r d t q)) : PC l G 1 mX11_tell bg [(2, 0), (0, f), (0, r), (0, d), (0, t), (0, q)] (n, K, F, E) Q := by
  refine vX11_tell_0 0 f r d t q ?_
  simp only [hF.f0_0, hF.f1_0, hF.f2_0, hF.f0_3, hF.f0_13, hK.k0, hK.k1, hK.k2, hK.k3, hK.k10, hK.k49]
  refine ⟨trivial, trivial, trivial, trivial, by decide, fun z => ⟨trivial, ?_⟩, fun z F1 e1 => ⟨trivial, by decide, by decide, fun E2 e2 => ?_⟩⟩
  · refine c_push hK hF (by rw [hK.k2]) hF.f2_0 hK.k3 (by decide) (by decide) (by decide) f0 f1 s0 s1 fun f s kd cl a b c d e => ?_
    have hF' : FS (pUp (pUp F 10 2 f) 10 3 s) := (hF.up (by decide +kernel)).up (by decide +kernel)
    have eE : pRow (pRow E 11 kd) 12 cl 3 = E 3 := by rw [pRow_ne (by decide), pRow_ne (by decide)]
    refine vX11_tell_36 0 _ _ _ _ _ ?_
    simp only [hF'.f0_0, hF'.f1_0, hK.k0, hK.k1, hK.k2]
    refine ⟨trivial, trivial, trivial, c_addOperator (by rw [hK.k2]) hF'.f2_0 hK.k3 (by decide) (by rw [eE]; exact o1) (by rw [eE]; exact z) ?_⟩
    rw [eE]
    refine vX11_tell_54 _ 0 ⟨by rw [hK.k0], fun F2 e2 => ?_⟩
    rw [e2]
    exact h2 z f s kd cl _ a b c d e (cz_tell o1 z)
  · rw [e1, e2]
    exact h1 (by omega)
end A
