/-! DAYS in the reference, and the pair -/
def FrO (F E F' E' : Int → Int → Int) : Prop := (∀ r, r ≠ 68 → r ≠ 71 → r ≠ 72 → r ≠ 84 → (r < 86 ∨ 95 < r) → E' r = E r) ∧ FS F' ∧ (∀ a k, ¬ (a = 66 ∧ (k = 8 ∨ k = 34 ∨ k = 38 ∨ k = 39 ∨ k = 40 ∨ k = 47 ∨ k = 49 ∨ k = 50 ∨ k = 51 ∨ k = 52 ∨ k = 53 ∨ k = 56 ∨ k = 72)) → F' a k = F a k) ∧ UnOk (E 71) (E' 71)
theorem FrO.refl {F E : Int → Int → Int} (h : FS F) : FrO F E F E := ⟨fun _ _ _ _ _ _ => rfl, h, fun _ _ _ => rfl, fun _ _ _ => rfl⟩
theorem FrO.trans {F E F' E' F'' E'' : Int → Int → Int} (h : FrO F E F' E') (h' : FrO F' E' F'' E'') : FrO F E F'' E'' := ⟨fun r a b c d e => (h'.1 r a b c d e).trans (h.1 r a b c d e), h'.2.1, fun a k q => (h'.2.2.1 a k q).trans (h.2.2.1 a k q), fun j a b => (h'.2.2.2 j a b).trans (h.2.2.2 j a b)⟩
theorem FrN.o {v : Int} {c : Int → Int} {F E F' E' : Int → Int → Int} (h : FrN F E F' E') (hl : LgV v c F E F' E') : FrO F E F' E' := by
  refine ⟨h.1, h.2.1, fun a k q => h.2.2 a k (by omega), ?_⟩
  rcases hl with ⟨_, _, _, q⟩ | ⟨_, _, q, _⟩
  · exact q
  · intro j _ _; rw [q]
section R
variable {l : Launch} {G : pG} {bg : Nat × Nat} {n : Nat} {K : Int → Nat × Nat} {Q : Option pV → pM → Prop} {L : Option tLaw} {mood bud N x3 x4 : Int} {g : Int → Int}
theorem r_days_58 (hK : KS K) (m0 : 0 ≤ mood ∧ mood ≤ 9) (N60 : N ≤ 60) (hl : LawF g L) (hlo : LwOk L) (hm : g 5 = mood) (hb : g 3 = bud) (m : Nat) : ∀ (i s : Int) (c : Int → Int) (F E : Int → Int → Int), i + m = N → 0 ≤ i → 0 ≤ s → s < 1000003 → FS F → F 66 72 = s → RowOk g (E 68) c → CInv c → F 66 20 = 0 → (0 ≤ F 66 8 ∧ F 66 8 ≤ 16) →
    (∀ F' E', FrO F E F' E' → RowOk g (E' 68) (dyS L mood bud m s c) → PW l G 8 mX12_days bg 58 [(0, (2, 66)), (2, (0, N)), (3, (0, x3)), (4, (0, x4)), (5, (0, N))] [] (n, K, F', E') Q) →
    PW l G 8 mX12_days bg 58 [(0, (2, 66)), (2, (0, N)), (3, (0, x3)), (4, (0, x4)), (5, (0, i))] [] (n, K, F, E) Q := by
  induction m with
  | zero =>
    intro i s c F E ei i0 s0 s1 hF hs hr hC h20 hg hQ
    obtain rfl : i = N := by omega
    exact hQ F E (FrO.refl hF) hr
  | succ m ih =>
    intro i s c F E ei i0 s0 s1 hF hs hr hC h20 hg hQ
    obtain ⟨a1, a2⟩ := nxD_eq s0 s1
    have r1 := nxD_rng (s := s)
    obtain ⟨b1, b2⟩ := nxD_eq r1.1 r1.2
    have r2 := nxD_rng (s := nxD s)
    obtain ⟨c1, c2⟩ := nxD_eq r2.1 r2.2
    have r3 := nxD_rng (s := nxD (nxD s))
    obtain ⟨d1, d2⟩ := nxD_eq r3.1 r3.2
    have r4 := nxD_rng (s := nxD (nxD (nxD s)))
    refine vX12_days_58 66 N x3 x4 i ⟨fun z => absurd z (by omega), fun _ => ?_⟩
    rw [hs]
    refine ⟨by rw [hK.k66], a2, fun y1 e1 F2 f2 => ?_⟩
    rw [a1] at e1
    subst e1
    rw [Int.tmod_eq_emod_of_nonneg r1.1, b1]
    refine ⟨by omega, b2, fun F3 f3 y4 e4 => ⟨by rw [Int.tmod_eq_emod_of_nonneg r2.1] at e4; omega, fun y5 e5 => ?_⟩⟩
    rw [Int.tmod_eq_emod_of_nonneg r2.1] at e4
    subst e4 e5
    rw [c1]
    refine ⟨c2, fun F6 f6 => ⟨by rw [Int.tmod_eq_emod_of_nonneg r3.1]; omega, d2, fun y7 e7 F8 f8 => ?_⟩⟩
    subst e7
    rw [d1] at f8
    rw [d1, Int.tmod_eq_emod_of_nonneg r4.1, Int.tmod_eq_emod_of_nonneg r3.1]
    have w8 : FrO F E F8 E := by
      refine ⟨fun _ _ _ _ _ _ => rfl, ?_, fun p k q => ?_, fun _ _ _ => rfl⟩
      · rw [f8, f6, f3, f2]; exact (((hF.up (by decide +kernel)).up (by decide +kernel)).up (by decide +kernel)).up (by decide +kernel)
      · rw [f8, f6, f3, f2]; unfold pUp; rw [if_neg (by omega), if_neg (by omega), if_neg (by omega), if_neg (by omega)]
    have s8 : F8 66 72 = nxD (nxD (nxD (nxD s))) := by rw [f8, pUp_s]
    have g8 : F8 66 8 = F 66 8 := by rw [f8, f6, f3, f2, pUp_k (by decide), pUp_k (by decide), pUp_k (by decide), pUp_k (by decide)]
    have z8 : F8 66 20 = 0 := (w8.2.2.1 66 20 (by omega)).trans h20
    have hF8 := w8.2.1
    have step : ∀ F' E' c', FrO F8 E F' E' → F' 66 72 = F8 66 72 → RowOk g (E' 68) c' → (0 ≤ F' 66 8 ∧ F' 66 8 ≤ 16) → c' = (if 7 ≤ nxD (nxD (nxD (nxD s))) % 8 then cWin c (nxD s % 3) (nxD (nxD s) % 4 + 2) else (sCome c L mood bud (nxD s % 3) (nxD (nxD s) % 4) (nxD (nxD (nxD s)) % 4)).2.1) → PW l G 8 mX12_days bg 58 [(0, (2, 66)), (2, (0, N)), (3, (0, x3)), (4, (0, x4)), (5, (0, i + 1))] [] (n, K, F', E') Q := fun F' E' c' w' e72 ro g' ec => by
      subst ec
      exact ih (i + 1) _ _ F' E' (by omega) (by omega) r4.1 r4.2 w'.2.1 (by rw [e72, s8]) ro (cinv_step hC) ((w'.2.2.1 66 20 (by omega)).trans z8) g' fun F2 E2 w2 ro2 => hQ F2 E2 ((w8.trans w').trans w2) ro2
    refine ⟨by omega, fun z => ⟨by omega, ?_⟩, fun z => ?_⟩
    · have rd : ∀ k j, 0 ≤ k → k < 117 → j = k + 6 → E 68 j = c k := fun k j k0 k1 e => by rw [← hr.1, czs_at k0 k1 e]
      refine r_windowNow hK hF8 (by rw [g8]; exact hg.1) (by rw [g8]; exact hg.2) (fun r r0 r1 => by have := hC.2.2.2.1 r r0 r1; rw [rd (9 + r) (15 + r) (by omega) (by omega) (by omega)]; omega) ?_
      rw [hr.1]
      unfold sWindow
      rw [if_pos (by omega)]
      by_cases q : c (3 + nxD s % 3) = nxD (nxD s) % 4 + 2
      · rw [if_pos q]
        refine ⟨fun _ => vX12_days_124 66 N x3 x4 i _ ⟨by omega, step F8 E c (FrO.refl hF8) rfl hr (by rw [g8]; exact hg) ?_⟩, fun y => absurd y (by dsimp only; decide)⟩
        have h9 := hC.2.2.2.1 (nxD s % 3) (by omega) (by omega)
        rw [if_pos z, ← q, cWin_same h9.2.2.2]
      · rw [if_neg q]
        refine ⟨fun y => absurd y (by dsimp only; omega), fun _ nu un so gg u1 u2 lg uo ro => vX12_days_124 66 N x3 x4 i _ ⟨by omega, step _ _ (cWin c (nxD s % 3) (nxD (nxD s) % 4 + 2)) ⟨fun p h1 h2 h3 h4 h5 => ?_, hF8.up (by decide +kernel), fun p k q => ?_, ?_⟩ ?_ ⟨?_, fun j hj => ?_⟩ ?_ (by rw [if_pos z])⟩⟩
        · rw [pRow_ne h1, pRow_ne h3, pRow_ne h2]
        · unfold pUp; rw [if_neg (by omega)]
        · rw [pRow_ne (by decide), pRow_ne (by decide), pRow_at]; exact uo
        · rw [pUp_k (by decide)]
        · rw [pRow_at]; exact ro.1
        · rw [pRow_at, ro.2 j hj]; exact hr.2 j hj
        · rw [pUp_s]; exact ⟨u1, u2⟩
    · refine r_comeNow (c := c) (L := L) (mood := mood) (bud := bud) hK hF8 hr.1 hC z8 (hl.congr hr.2) hlo (by rw [hr.2 5 (by decide)]; exact hm) m0 (by rw [hr.2 3 (by decide)]; exact hb) (by rw [g8]; exact hg) fun F1 E1 w1 ro lg _ => ?_
      have gg : 0 ≤ F1 66 8 ∧ F1 66 8 ≤ 16 := by
        rcases lg with ⟨_, q, _⟩ | ⟨_, q, _⟩
        · exact q
        · rw [q, g8]; exact hg
      exact vX12_days_110 66 N x3 x4 i _ ⟨by omega, step F1 E1 _ (w1.o lg) (w1.2.2 66 72 (by omega)) ⟨ro.1, fun j hj => (ro.2 j hj).trans (hr.2 j hj)⟩ gg (by rw [if_neg z])⟩
/-- behind the days: what is drawn -/
theorem r_days_146 {F : Int → Int → Int} {c : Int → Int} {x5 : Int} (hK : KS K) (hF : FS F) (hC : CInv c) {E : Int → Int → Int} (hc : cz (sh6 (E 68)) = c)
    (hQ : ∀ E', (∀ r, r ≠ 104 → E' r = E r) → (∀ o, 0 ≤ o → o < c 0 → E' 104 o = c (17 + 6 * o)) → (∀ r, 0 ≤ r → r < 3 → E' 104 (4 + r) = c (9 + r)) → PC l G 1 mX12_giveBack (0, 0) [(2, 66), (0, x3)] (n, K, pUp F 66 74 (c 0), E') (fun r μ => PW l G 8 mX12_days bg 233 [(0, (2, 66)), (5, (0, x5))] (r.toList ++ []) μ Q)) :
    PW l G 8 mX12_days bg 146 [(0, (2, 66)), (3, (0, x3)), (5, (0, x5)), (6, (0, 0))] [] (n, K, F, E) Q := by
  have b0 := hC.1
  have rd : ∀ k j, 0 ≤ k → k < 117 → j = k + 6 → E 68 j = c k := fun k j k0 k1 e => by rw [← hc, czs_at k0 k1 e]
  have rd6 := rd 0 6 (by decide) (by decide) (by decide)
  have l2 : ∀ (w : Nat) (i : Int) (E1 : Int → Int → Int), i + w = 3 → 0 ≤ i → (∀ r, r ≠ 104 → E1 r = E r) → (∀ o, 0 ≤ o → o < c 0 → E1 104 o = c (17 + 6 * o)) → (∀ r, 0 ≤ r → r < i → E1 104 (4 + r) = c (9 + r)) → PW l G 8 mX12_days bg 186 [(0, (2, 66)), (3, (0, x3)), (5, (0, x5)), (6, (0, i))] [] (n, K, F, E1) Q := by
    intro w
    induction w with
    | zero =>
      intro i E1 ei i0 n1 a1 d1
      refine vX12_days_186 66 x3 x5 i ⟨fun _ => ?_, fun z => absurd (by omega) z⟩
      simp only [hF.f66_3, hK.k66, hK.k68, n1 68 (by decide), rd6]
      refine ⟨trivial, trivial, by decide, fun F1 f1 => ?_⟩
      rw [f1]
      exact hQ E1 n1 a1 (fun r r0 r1 => d1 r r0 (by omega))
    | succ w ih =>
      intro i E1 ei i0 n1 a1 d1
      refine vX12_days_186 66 x3 x5 i ⟨fun z => absurd z (by omega), fun _ => ?_⟩
      simp only [hF.f66_3, hF.f66_73, hK.k66, hK.k68, hK.k104]
      refine ⟨trivial, by omega, by omega, trivial, by omega, by decide, trivial, by omega, fun E2 e2 => ⟨by omega, ?_⟩⟩
      refine ih (i + 1) E2 (by omega) (by omega) (fun r hr => by rw [e2, pUp_an hr]; exact n1 r hr) (fun o o0 o1 => by rw [e2, pUp_k (by omega)]; exact a1 o o0 o1) (fun r r0 r1 => ?_)
      rw [e2]
      by_cases q : r = i
      · rw [q, pUp_s, n1 68 (by decide), rd (9 + i) (15 + i) (by omega) (by omega) (by omega)]
      · rw [pUp_k (by omega)]; exact d1 r r0 (by omega)
  have l1 : ∀ (w : Nat) (i : Int) (E1 : Int → Int → Int), i + w = c 0 → 0 ≤ i → (∀ r, r ≠ 104 → E1 r = E r) → (∀ o, 0 ≤ o → o < i → E1 104 o = c (17 + 6 * o)) → PW l G 8 mX12_days bg 146 [(0, (2, 66)), (3, (0, x3)), (5, (0, x5)), (6, (0, i))] [] (n, K, F, E1) Q := by
    intro w
    induction w with
    | zero =>
      intro i E1 ei i0 n1 a1
      refine vX12_days_146 66 x3 x5 i ?_
      simp only [hF.f66_3, hK.k66, hK.k68, n1 68 (by decide), rd6]
      exact ⟨trivial, trivial, by decide, fun _ => l2 3 0 E1 (by decide) (by decide) n1 (fun o o0 o1 => a1 o o0 (by omega)) (fun r r0 r1 => absurd r1 (by omega)), fun z => absurd (by omega) z⟩
    | succ w ih =>
      intro i E1 ei i0 n1 a1
      refine vX12_days_146 66 x3 x5 i ?_
      simp only [hF.f66_3, hF.f66_73, hK.k66, hK.k68, hK.k104, n1 68 (by decide), rd6]
      refine ⟨trivial, trivial, by decide, fun z => absurd z (by omega), fun _ => ⟨by omega, by omega, by omega, by omega, by decide, trivial, by omega, fun E2 e2 => ⟨by omega, ?_⟩⟩⟩
      refine ih (i + 1) E2 (by omega) (by omega) (fun r hr => by rw [e2, pUp_an hr]; exact n1 r hr) (fun o o0 o1 => ?_)
      rw [e2]
      by_cases q : o = i
      · rw [q, pUp_s, rd (17 + 6 * i) (18 + 6 * i + 5) (by omega) (by omega) (by omega)]
      · rw [pUp_k q]; exact a1 o o0 (by omega)
  exact l1 (c 0).toNat 0 E (by omega) (by decide) (fun _ _ => rfl) (fun o o0 o1 => absurd o1 (by omega))
end R
