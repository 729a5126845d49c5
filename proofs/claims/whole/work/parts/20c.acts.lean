/-! ACTS as both programs have them: the answer and the core behind it; contracts of strike, window, index, tell on both sides -/
def sStrike (c : Int → Int) (o : Int) : Int × (Int → Int) := if 0 ≤ o ∧ o < c 0 then (c 0 - 1, cStrike c o) else (-2, c)
def sWindow (c : Int → Int) (r w : Int) : Int × (Int → Int) := if (0 ≤ r ∧ r < 3) ∧ 1 ≤ w ∧ w ≤ 9 then (if c (3 + r) = w then (-3, c) else (max 0 (c (9 + r) - w), cWin c r w)) else (-1, c)
def sIndex (c : Int → Int) (r i : Int) : Int × (Int → Int) := if (0 ≤ r ∧ r < 3) ∧ 0 ≤ i ∧ i ≤ 2 then (if c (6 + r) = i then (-3, c) else (c (6 + r), cIdx c r i)) else (-1, c)
def UnOk (u un : Int → Int) : Prop := ∀ j, 1872 ≤ j → j < 2106 → un j = u j
def RowOk (g g' c : Int → Int) : Prop := cz (sh6 g') = c ∧ ∀ j, (j < 6 ∨ 123 ≤ j) → g' j = g j
/-- an act of the class behind which the core is c -/
def CAct (n : Nat) (K : Int → Nat × Nat) (F E : Int → Int → Int) (Q : Option pV → pM → Prop) (sort v : Int) (c : Int → Int) : Prop :=
  ∀ f s kd cl g, 0 ≤ f → f < 16 → 0 ≤ s → s ≤ 16 → lgC f s kd cl = lgPush (lgC (F 10 2) (F 10 3) (E 11) (E 12)) (sort, cz (E 3)) → cz g = c → Q (some (0, v)) (n, K, pUp (pUp F 10 2 f) 10 3 s, pRow (pRow (pRow E 11 kd) 12 cl) 3 g)
def CRes (n : Nat) (K : Int → Nat × Nat) (F E : Int → Int → Int) (Q : Option pV → pM → Prop) (sort : Int) (s : Int × (Int → Int)) : Prop := (s.1 < 0 → Q (some (0, s.1)) (n, K, F, E)) ∧ (0 ≤ s.1 → CAct n K F E Q sort s.1 s.2)
/-- an act of the reference -/
def RAct (n : Nat) (K : Int → Nat × Nat) (F E : Int → Int → Int) (Q : Option pV → pM → Prop) (sort v : Int) (c : Int → Int) : Prop :=
  ∀ nu un so g, 0 ≤ nu → nu ≤ 16 → lgR nu so un = lgPush (lgR (F 66 8) (E 72) (E 71)) (sort, cz (sh6 (E 68))) → UnOk (E 71) un → RowOk (E 68) g c → Q (some (0, v)) (n, K, pUp F 66 8 nu, pRow (pRow (pRow E 71 un) 72 so) 68 g)
def RRes (n : Nat) (K : Int → Nat × Nat) (F E : Int → Int → Int) (Q : Option pV → pM → Prop) (sort : Int) (s : Int × (Int → Int)) : Prop := (s.1 < 0 → Q (some (0, s.1)) (n, K, F, E)) ∧ (0 ≤ s.1 → RAct n K F E Q sort s.1 s.2)
theorem cz_strike {f : Int → Int} {o : Int} (o0 : 0 ≤ o) (o1 : o < f 0) (o2 : f 0 ≤ 4) : cz (cStrike f o) = cStrike (cz f) o := by
  unfold cStrike
  rw [cz_sh (by omega) (by omega) (by omega), cz_up (by omega) (by omega), cz_in (by omega) (by omega)]
theorem cz_drop {f : Int → Int} {r m : Int} (r0 : 0 ≤ r) (r1 : r < 3) (m0 : 0 ≤ m) (h9 : f (9 + r) ≤ 9) : cz (cDrop f r m) = cDrop (cz f) r m := by
  unfold cDrop
  rw [cz_sh (by omega) (by omega) (by omega), cz_up (by omega) (by omega), cz_in (by omega) (by omega)]
theorem cz_win {f : Int → Int} {r w : Int} (r0 : 0 ≤ r) (r1 : r < 3) (h9 : f (9 + r) ≤ 9) : cz (cWin f r w) = cWin (cz f) r w := by
  unfold cWin
  rw [cz_drop r0 r1 (by omega) (by rw [rUp_n (by omega)]; exact h9), cz_up (by omega) (by omega), cz_in (by omega) (by omega)]
theorem cz_idx {f : Int → Int} {r i : Int} (r0 : 0 ≤ r) (r1 : r < 3) : cz (cIdx f r i) = cIdx (cz f) r i := cz_up (by omega) (by omega)
theorem cz_tell {f : Int → Int} {a r d t q : Int} (o0 : 0 ≤ f 0) (o1 : f 0 < 4) : cz (cTell f a r d t q) = cTell (cz f) a r d t q := by
  unfold cTell
  rw [cz_up (by omega) (by omega), cz_up (by omega) (by omega), cz_up (by omega) (by omega), cz_up (by omega) (by omega), cz_up (by omega) (by omega), cz_up (by omega) (by omega), cz_up (by omega) (by omega), cz_in (by omega) (by omega)]
section A
variable {l : Launch} {G : pG} {bg : Nat × Nat} {n : Nat} {K : Int → Nat × Nat} {F E : Int → Int → Int} {Q : Option pV → pM → Prop}
theorem row3_11_12 {kd cl g : Int → Int} : pRow (pRow (pRow E 11 kd) 12 cl) 3 g = pRow (pRow (pRow E 11 kd) 12 cl) 3 g := rfl
theorem c_strikeOut {o : Int} (hK : KS K) (hF : FS F) (f0 : 0 ≤ F 10 2) (f1 : F 10 2 < 16) (s0 : 0 ≤ F 10 3) (s1 : F 10 3 ≤ 16) (o2 : E 3 0 ≤ 4) (h : CRes n K F E Q 2 (sStrike (cz (E 3)) o)) : PC l G 1 mX11_strikeOut bg [(2, 0), (0, o)] (n, K, F, E) Q := by
  refine vX11_strikeOut_0 0 o ?_
  have z0 : cz (E 3) 0 = E 3 0 := cz_in (by omega) (by omega)
  unfold sStrike at h
  simp only [hF.f0_0, hF.f1_0, hF.f2_0, hF.f0_3, hK.k0, hK.k1, hK.k2, hK.k3, hK.k10]
  refine ⟨trivial, trivial, trivial, trivial, by decide, fun z => ⟨trivial, ?_⟩, fun z => ?_⟩
  · rw [if_pos (by omega)] at h
    refine c_push hK hF (by rw [hK.k2]) hF.f2_0 hK.k3 (by decide) (by decide) (by decide) f0 f1 s0 s1 fun f s kd cl a b c d e => ?_
    have hF' : FS (pUp (pUp F 10 2 f) 10 3 s) := (hF.up (by decide +kernel)).up (by decide +kernel)
    refine vX11_strikeOut_32 0 o ?_
    simp only [hF'.f0_0, hF'.f1_0, hK.k0, hK.k1, hK.k2]
    refine ⟨trivial, trivial, trivial, c_removeOperator (by rw [hK.k2]) hF'.f2_0 hK.k3 (by decide) z.1 z.2 o2 ?_⟩
    refine vX11_strikeOut_43 _ ?_
    have h2 := h.2 (show (0 : Int) ≤ cz (E 3) 0 - 1 by omega) f s kd cl (cStrike (E 3) o) a b c d e (cz_strike z.1 z.2 o2)
    rw [z0] at h2
    exact h2
  · rw [if_neg (by omega)] at h
    exact h.1 (by dsimp only; decide)
theorem c_changeWindow {r w : Int} (hK : KS K) (hF : FS F) (f0 : 0 ≤ F 10 2) (f1 : F 10 2 < 16) (s0 : 0 ≤ F 10 3) (s1 : F 10 3 ≤ 16) (hC : ∀ r, 0 ≤ r → r < 3 → 0 ≤ E 3 (9 + r) ∧ E 3 (9 + r) ≤ 9) (h : CRes n K F E Q 3 (sWindow (cz (E 3)) r w)) : PC l G 2 mX11_changeWindow bg [(2, 0), (0, r), (0, w)] (n, K, F, E) Q := by
  refine vX11_changeWindow_0 0 r w ?_
  unfold sWindow at h
  simp only [hF.f0_0, hF.f1_0, hF.f2_0, hF.f0_3, hK.k0, hK.k1, hK.k2, hK.k3, hK.k10]
  refine ⟨fun z => ?_, fun z => ⟨fun y => ?_, fun y => ⟨fun x => ⟨trivial, trivial, trivial, by omega, trivial, by omega, fun t => ⟨trivial, ?_⟩, fun t => ?_⟩, fun x => ?_⟩⟩⟩
  · rw [if_neg (by omega)] at h
    exact h.1 (by dsimp only; decide)
  · rw [if_neg (by omega)] at h
    exact h.1 (by dsimp only; decide)
  · have z3 : cz (E 3) (3 + r) = E 3 (3 + r) := cz_in (by omega) (by omega)
    have z9 : cz (E 3) (9 + r) = E 3 (9 + r) := cz_in (by omega) (by omega)
    have b9 := hC r z.1 z.2
    rw [if_pos (by omega), if_neg (by omega)] at h
    refine c_push hK hF (by rw [hK.k2]) hF.f2_0 hK.k3 (by decide) (by decide) (by decide) f0 f1 s0 s1 fun f s kd cl a b c d e => ?_
    have hF' : FS (pUp (pUp F 10 2 f) 10 3 s) := (hF.up (by decide +kernel)).up (by decide +kernel)
    refine vX11_changeWindow_53 0 r w ?_
    simp only [hF'.f0_0, hF'.f1_0, hK.k0, hK.k1, hK.k2]
    refine ⟨trivial, trivial, trivial, c_setWindow (by rw [hK.k2]) hF'.f2_0 hK.k3 (by decide) z.1 z.2 (by omega) (by omega) b9.1 b9.2 ?_⟩
    refine vX11_changeWindow_65 _ ?_
    have h2 := h.2 (show (0 : Int) ≤ max 0 (cz (E 3) (9 + r) - w) by omega) f s kd cl (cWin (E 3) r w) a b c d e (cz_win z.1 z.2 b9.2)
    rw [z9] at h2
    exact h2
  · rw [if_pos (by omega), if_pos (by rw [cz_in (by omega) (by omega)]; exact t)] at h
    exact h.1 (by dsimp only; decide)
  · rw [if_neg (by omega)] at h
    exact h.1 (by dsimp only; decide)
theorem c_changeIndex {r w : Int} (hK : KS K) (hF : FS F) (f0 : 0 ≤ F 10 2) (f1 : F 10 2 < 16) (s0 : 0 ≤ F 10 3) (s1 : F 10 3 ≤ 16) (hC : ∀ r, 0 ≤ r → r < 3 → 0 ≤ E 3 (6 + r)) (h : CRes n K F E Q 4 (sIndex (cz (E 3)) r w)) : PC l G 1 mX11_changeIndex bg [(2, 0), (0, r), (0, w)] (n, K, F, E) Q := by
  refine vX11_changeIndex_0 0 r w ?_
  unfold sIndex at h
  simp only [hF.f0_0, hF.f1_0, hF.f2_0, hF.f0_3, hK.k0, hK.k1, hK.k2, hK.k3, hK.k10]
  refine ⟨fun z => ?_, fun z => ⟨fun y => ?_, fun y => ⟨fun x => ⟨trivial, trivial, trivial, by omega, trivial, by omega, fun t => ⟨trivial, ?_⟩, fun t => ?_⟩, fun x => ?_⟩⟩⟩
  · rw [if_neg (by omega)] at h
    exact h.1 (by dsimp only; decide)
  · rw [if_neg (by omega)] at h
    exact h.1 (by dsimp only; decide)
  · have z6 : cz (E 3) (6 + r) = E 3 (6 + r) := cz_in (by omega) (by omega)
    have b6 := hC r z.1 z.2
    rw [if_pos (by omega), if_neg (by omega)] at h
    refine c_push hK hF (by rw [hK.k2]) hF.f2_0 hK.k3 (by decide) (by decide) (by decide) f0 f1 s0 s1 fun f s kd cl a b c d e => ?_
    have hF' : FS (pUp (pUp F 10 2 f) 10 3 s) := (hF.up (by decide +kernel)).up (by decide +kernel)
    refine vX11_changeIndex_53 0 r w _ ?_
    simp only [hF'.f0_0, hF'.f1_0, hF'.f2_0, hK.k0, hK.k1, hK.k2, hK.k3]
    refine ⟨trivial, trivial, trivial, by omega, by decide, trivial, by omega, fun E1 e1 => ?_⟩
    have h2 := h.2 (show (0 : Int) ≤ cz (E 3) (6 + r) by omega) f s kd cl (cIdx (E 3) r w) a b c d e (cz_idx z.1 z.2)
    rw [z6] at h2
    rw [e1, pUp_row (E := pRow (pRow E 11 kd) 12 cl)]
    exact h2
  · rw [if_pos (by omega), if_pos (by rw [cz_in (by omega) (by omega)]; exact t)] at h
    exact h.1 (by dsimp only; decide)
  · rw [if_neg (by omega)] at h
    exact h.1 (by dsimp only; decide)
/-! the reference's copies -/
theorem r_keepAll_2 {k : Int} (hK : KS K) (hF : FS F) (k0 : 0 ≤ k) (k1 : k < 19) (t : Nat) : ∀ (i : Int) (E : Int → Int → Int), i + t = 117 → 0 ≤ i → Q none (n, K, F, pRow E 71 (rCp (E 71) (E 68) (117 * k + i) (117 * k + 117) (6 - 117 * k))) → PW l G 0 mX12_keepAll bg 2 [(0, (2, 66)), (1, (0, k)), (2, (0, i))] [] (n, K, F, E) Q := by
  induction t with
  | zero =>
    intro i E e i0 q
    refine vX12_keepAll_2 66 k i ⟨fun _ => ?_, fun z => absurd (by omega) z⟩
    rw [rCp_none (by omega), pRow_self] at q
    exact q
  | succ t ih =>
    intro i E e i0 q
    refine vX12_keepAll_2 66 k i ⟨fun z => absurd z (by omega), fun _ => ?_⟩
    simp only [hF.f66_3, hF.f66_6, hK.k66, hK.k68, hK.k71]
    refine ⟨trivial, by omega, by omega, by omega, trivial, by omega, by decide, trivial, by omega, fun E1 e1 => ⟨by omega, ?_⟩⟩
    subst e1
    refine ih (i + 1) _ (by omega) (by omega) ?_
    rw [show 117 * k + (i + 1) = 117 * k + i + 1 by omega, cp_step (by decide) (by omega) (by congr 1; omega)]
    exact q
theorem r_keepAll {k : Int} (hK : KS K) (hF : FS F) (k0 : 0 ≤ k) (k1 : k < 19) (hQ : Q none (n, K, F, pRow E 71 (rCp (E 71) (E 68) (117 * k) (117 * k + 117) (6 - 117 * k)))) : PC l G 0 mX12_keepAll bg [(2, 66), (0, k)] (n, K, F, E) Q := by
  refine vX12_keepAll_0 66 k (r_keepAll_2 hK hF k0 k1 117 0 E (by omega) (by omega) ?_)
  rw [show 117 * k + 0 = 117 * k by omega]
  exact hQ
theorem r_putBack_2 {k : Int} (hK : KS K) (hF : FS F) (k0 : 0 ≤ k) (k1 : k < 19) (t : Nat) : ∀ (i : Int) (E : Int → Int → Int), i + t = 117 → 0 ≤ i → Q none (n, K, F, pRow E 68 (rCp (E 68) (E 71) (6 + i) 123 (117 * k - 6))) → PW l G 0 mX12_putBack bg 2 [(0, (2, 66)), (1, (0, k)), (2, (0, i))] [] (n, K, F, E) Q := by
  induction t with
  | zero =>
    intro i E e i0 q
    refine vX12_putBack_2 66 k i ⟨fun _ => ?_, fun z => absurd (by omega) z⟩
    rw [rCp_none (by omega), pRow_self] at q
    exact q
  | succ t ih =>
    intro i E e i0 q
    refine vX12_putBack_2 66 k i ⟨fun z => absurd z (by omega), fun _ => ?_⟩
    simp only [hF.f66_3, hF.f66_6, hK.k66, hK.k68, hK.k71]
    refine ⟨trivial, by omega, by omega, by omega, trivial, by omega, by decide, trivial, by omega, fun E1 e1 => ⟨by omega, ?_⟩⟩
    subst e1
    refine ih (i + 1) _ (by omega) (by omega) ?_
    rw [show 6 + (i + 1) = 6 + i + 1 by omega, cp_step (by decide) (by omega) (by congr 1; omega)]
    exact q
/-- a kept core comes back -/
theorem r_putBack {k : Int} (hK : KS K) (hF : FS F) (k0 : 0 ≤ k) (k1 : k < 19) (hQ : ∀ g, RowOk (E 68) g (cz fun j => E 71 (117 * k + j)) → Q none (n, K, F, pRow E 68 g)) : PC l G 0 mX12_putBack bg [(2, 66), (0, k)] (n, K, F, E) Q := by
  refine vX12_putBack_0 66 k (r_putBack_2 hK hF k0 k1 117 0 E (by omega) (by omega) ?_)
  refine hQ _ ⟨cz_ext fun j j0 j1 => ?_, fun j hj => ?_⟩
  · unfold sh6 rCp
    rw [if_pos (by omega)]
    congr 1
    omega
  · unfold rCp
    rw [if_neg (by omega)]
theorem r_remTried_79 {v : Int} (hK : KS K) (hF : FS F) (s0 : 0 ≤ F 66 8) (s1 : F 66 8 < 16) (t : Nat) : ∀ (i : Int) (E : Int → Int → Int), i + t = 117 → 0 ≤ i → Q none (n, K, pUp F 66 8 (F 66 8 + 1), pRow (pRow E 71 (rSh (E 71) (117 * F 66 8 + i) (117 * F 66 8 + 117) (2106 - 117 * F 66 8))) 72 (rUp (E 72) (F 66 8) v)) → PW l G 0 mX12_rememberTried bg 79 [(0, (2, 66)), (1, (0, v)), (2, (0, i))] [] (n, K, F, E) Q := by
  induction t with
  | zero =>
    intro i E e i0 q
    refine vX12_rememberTried_79 66 v i ⟨fun _ => ?_, fun z => absurd (by omega) z⟩
    rw [rSh_none (by omega), pRow_self] at q
    simp only [hF.f66_7, hK.k66, hK.k72]
    refine ⟨trivial, by decide, trivial, by omega, fun E1 e1 => ⟨by omega, fun F2 e2 => ?_⟩⟩
    rw [e1, e2, pUp_row (E := E)]
    exact q
  | succ t ih =>
    intro i E e i0 q
    refine vX12_rememberTried_79 66 v i ⟨fun z => absurd z (by omega), fun _ => ?_⟩
    simp only [hF.f66_6, hK.k66, hK.k71]
    refine ⟨trivial, by omega, by omega, by omega, trivial, by omega, by decide, by omega, fun E1 e1 => ⟨by omega, ?_⟩⟩
    refine ih (i + 1) _ (by omega) (by omega) ?_
    rw [e1, show (2106 : Int) + i = 117 * F 66 8 + i + (2106 - 117 * F 66 8) by omega, show 117 * F 66 8 + (i + 1) = 117 * F 66 8 + i + 1 by omega, sh_step (by omega) (by omega), pUp_an (show (72 : Int) ≠ 71 by decide)]
    exact q
theorem r_remTried_41 {v : Int} (hK : KS K) (hF : FS F) (t : Nat) : ∀ (i : Int) (E : Int → Int → Int), i + t = 15 → 0 ≤ i → PW l G 0 mX12_rememberTried bg 79 [(0, (2, 66)), (1, (0, v)), (2, (0, 0))] [] (n, K, pUp F 66 8 (F 66 8 - 1), pRow E 72 (rSh (E 72) i 15 1)) Q → -2147483648 ≤ F 66 8 - 1 ∧ F 66 8 - 1 < 2147483648 → PW l G 0 mX12_rememberTried bg 41 [(0, (2, 66)), (1, (0, v)), (2, (0, i))] [] (n, K, F, E) Q := by
  induction t with
  | zero =>
    intro i E e i0 q b
    refine vX12_rememberTried_41 66 v i ⟨fun _ => ?_, fun z => absurd (by omega) z⟩
    rw [rSh_none (by omega), pRow_self] at q
    simp only [hK.k66]
    refine ⟨trivial, b, fun F1 e1 => ?_⟩
    rw [e1]
    exact q
  | succ t ih =>
    intro i E e i0 q b
    refine vX12_rememberTried_41 66 v i ⟨fun z => absurd z (by omega), fun _ => ?_⟩
    simp only [hF.f66_7, hK.k66, hK.k72]
    refine ⟨trivial, by omega, trivial, by omega, by decide, by omega, fun E1 e1 => ?_⟩
    refine ih (i + 1) _ (by omega) (by omega) ?_ b
    rw [e1, sh_step (by omega) (by omega)]
    exact q
theorem r_remTried_11 {v : Int} (hK : KS K) (hF : FS F) (t : Nat) : ∀ (i : Int) (E : Int → Int → Int), i + t = 1755 → 0 ≤ i → PW l G 0 mX12_rememberTried bg 41 [(0, (2, 66)), (1, (0, v)), (2, (0, 0))] [] (n, K, F, pRow E 71 (rSh (E 71) i 1755 117)) Q → PW l G 0 mX12_rememberTried bg 11 [(0, (2, 66)), (1, (0, v)), (2, (0, i))] [] (n, K, F, E) Q := by
  induction t with
  | zero =>
    intro i E e i0 q
    refine vX12_rememberTried_11 66 v i ⟨fun _ => ?_, fun z => absurd (by omega) z⟩
    rw [rSh_none (by omega), pRow_self] at q
    exact q
  | succ t ih =>
    intro i E e i0 q
    refine vX12_rememberTried_11 66 v i ⟨fun z => absurd z (by omega), fun _ => ?_⟩
    simp only [hF.f66_6, hK.k66, hK.k71]
    refine ⟨trivial, by omega, trivial, by omega, by decide, by omega, fun E1 e1 => ⟨by omega, ?_⟩⟩
    refine ih (i + 1) _ (by omega) (by omega) ?_
    rw [e1, sh_step (by omega) (by omega)]
    exact q
theorem lgR_put {s v : Int} {so un un' src : Int → Int} (s0 : 0 ≤ s) (h1 : ∀ k, 0 ≤ k → k < 117 → un' (117 * s + k) = src k) (h2 : ∀ j, 0 ≤ j → j < 117 * s → un' j = un j) : lgR (s + 1) (rUp so s v) un' = lgR s so un ++ [(v, cz src)] := by
  rw [lgR_succ s0, rUp_s, cz_ext h1, lgR_congr (so' := rUp so s v) (fun i i0 i1 => rUp_n (by omega)) h2]
theorem r_remember {v : Int} (hK : KS K) (hF : FS F) (s0 : 0 ≤ F 66 8) (s1 : F 66 8 ≤ 16) (hQ : ∀ nu un so, 0 ≤ nu → nu ≤ 16 → lgR nu so un = lgPush (lgR (F 66 8) (E 72) (E 71)) (v, cz (sh6 (E 68))) → UnOk (E 71) un → Q none (n, K, pUp F 66 8 nu, pRow (pRow E 71 un) 72 so)) : PC l G 1 mX12_remember bg [(2, 66), (0, v)] (n, K, F, E) Q := by
  refine vX12_remember_0 66 v ⟨by rw [hK.k66], r_keepAll hK hF (by decide) (by decide) ?_⟩
  refine vX12_remember_6 66 v ⟨by rw [hK.k66], vX12_rememberTried_0 66 v ⟨by rw [hK.k66], fun z => ?_, fun z => ?_⟩⟩
  · refine r_remTried_79 hK hF s0 (by omega) 117 0 _ (by omega) (by omega) ?_
    refine vX12_remember_11 ?_
    rw [pRow_at, pRow_row, pRow_ne (by decide)]
    refine hQ _ _ _ (by omega) (by omega) ?_ ?_
    · unfold lgPush
      rw [if_neg (by rw [lgR_len]; omega)]
      refine lgR_put s0 (fun k k0 k1 => ?_) (fun j j0 j1 => ?_)
      · unfold rSh rCp sh6
        rw [if_pos (by omega), if_pos (by omega)]
        congr 1
        omega
      · unfold rSh rCp
        rw [if_neg (by omega), if_neg (by omega)]
    · intro j j0 j1
      unfold rSh rCp
      rw [if_neg (by omega), if_neg (by omega)]
  · refine r_remTried_11 hK hF 1755 0 _ (by omega) (by omega) (r_remTried_41 hK hF 15 0 _ (by omega) (by omega) ?_ (by omega))
    rw [pRow_at, pRow_row, pRow_ne (show (72 : Int) ≠ 71 by decide)]
    have hF' : FS (pUp F 66 8 (F 66 8 - 1)) := hF.up (by decide +kernel)
    have e8 : pUp F 66 8 (F 66 8 - 1) 66 8 = 15 := by rw [pUp_s]; omega
    refine r_remTried_79 hK hF' (by omega) (by omega) 117 0 _ (by omega) (by omega) ?_
    refine vX12_remember_11 ?_
    rw [e8, pUp_pUp, pRow_at, pRow_ne (show (71 : Int) ≠ 72 by decide), pRow_at, pRow_comm (show (72 : Int) ≠ 71 by decide), pRow_row, pRow_row]
    refine hQ _ _ _ (by omega) (by omega) ?_ ?_
    · unfold lgPush
      rw [if_pos (by rw [lgR_len]; omega), z, show (16 : Int) = 15 + 1 from rfl, lgR_tail (by decide)]
      have e : lgR 15 (fun k => E 72 (k + 1)) (fun k => E 71 (k + 117)) = lgR 15 (rSh (E 72) 0 15 1) (fun k => E 71 (k + 117)) := lgR_congr (fun i i0 i1 => by unfold rSh; rw [if_pos (by omega)]) (fun j _ _ => rfl)
      rw [e]
      refine lgR_put (by decide) (fun k k0 k1 => ?_) (fun j j0 j1 => ?_)
      · unfold rSh rCp sh6
        rw [if_pos (by omega), if_neg (by omega), if_pos (by omega)]
        congr 1
        omega
      · unfold rSh rCp
        rw [if_neg (by omega), if_pos (by omega), if_neg (by omega)]
    · intro j j0 j1
      unfold rSh rCp
      rw [if_neg (by omega), if_neg (by omega), if_neg (by omega)]
end A
