/-! DAYS: what is kept and given back in the reference; the days in both -/
section R
variable {l : Launch} {G : pG} {bg : Nat × Nat} {n : Nat} {K : Int → Nat × Nat} {Q : Option pV → pM → Prop}
theorem r_keepOrders {F E : Int → Int → Int} (hK : KS K) (hF : FS F) (hQ : ∀ E', (∀ r, r ≠ 71 → r ≠ 73 → r ≠ 74 → E' r = E r) → (∀ j, (j < 1989 ∨ 2106 ≤ j) → E' 71 j = E 71 j) → cz (fun j => E' 71 (117 * 17 + j)) = cz (sh6 (E 68)) → (∀ j, 0 ≤ j → j < 1872 → E' 73 j = E 71 j) → (∀ j, 0 ≤ j → j < 16 → E' 74 j = E 72 j) → Q (some (0, F 66 8)) (n, K, F, E')) : PC l G 1 mX12_keepOrders bg [(2, 66)] (n, K, F, E) Q := by
  refine vX12_keepOrders_0 66 ⟨by rw [hK.k66], r_keepAll hK hF (by decide) (by decide) (vX12_keepOrders_6 66 ?_)⟩
  generalize e0 : pRow E 71 (rCp (E 71) (E 68) (117 * 17) (117 * 17 + 117) (6 - 117 * 17)) = E0
  have n0 : ∀ r, r ≠ 71 → E0 r = E r := fun r hr => by rw [← e0, pRow_ne hr]
  have o71 : ∀ j, (j < 1989 ∨ 2106 ≤ j) → E0 71 j = E 71 j := fun j hj => by rw [← e0, pRow_at]; unfold rCp; rw [if_neg (by omega)]
  have k71 : cz (fun j => E0 71 (117 * 17 + j)) = cz (sh6 (E 68)) := by
    refine cz_ext fun k k0 k1 => ?_
    rw [← e0, pRow_at, sh6_at (j := k + 6) rfl]
    unfold rCp
    rw [if_pos (by omega)]
    congr 1
    omega
  have l2 : ∀ (w : Nat) (i : Int) (E1 : Int → Int → Int), i + w = 16 → 0 ≤ i → (∀ r, r ≠ 73 → r ≠ 74 → E1 r = E0 r) → (∀ j, 0 ≤ j → j < 1872 → E1 73 j = E 71 j) → (∀ j, 0 ≤ j → j < i → E1 74 j = E 72 j) → PW l G 1 mX12_keepOrders bg 35 [(0, (2, 66)), (1, (0, i))] [] (n, K, F, E1) Q := by
    intro w
    induction w with
    | zero =>
      intro i E1 ei i0 n1 a1 b1
      refine vX12_keepOrders_35 66 i ⟨fun _ => ⟨by rw [hK.k66], hQ E1 (fun r h1 h2 h3 => by rw [n1 r h2 h3, n0 r h1]) (fun j hj => by rw [n1 71 (by decide) (by decide)]; exact o71 j hj) (by rw [n1 71 (by decide) (by decide)]; exact k71) a1 (fun j j0 j1 => b1 j j0 (by omega))⟩, fun z => absurd (by omega) z⟩
    | succ w ih =>
      intro i E1 ei i0 n1 a1 b1
      refine vX12_keepOrders_35 66 i ?_
      simp only [hF.f66_7, hF.f66_10, hK.k66, hK.k72, hK.k74]
      refine ⟨fun z => absurd z (by omega), fun _ => ⟨trivial, trivial, by omega, by decide, trivial, by omega, fun E2 e2 => ⟨by omega, ?_⟩⟩⟩
      refine ih (i + 1) E2 (by omega) (by omega) (fun r h1 h2 => by rw [e2, pUp_an h2]; exact n1 r h1 h2) (fun j j0 j1 => by rw [e2, pUp_a (by decide)]; exact a1 j j0 j1) (fun j j0 j1 => ?_)
      rw [e2]
      by_cases q : j = i
      · rw [q, pUp_s, n1 72 (by decide) (by decide), n0 72 (by decide)]
      · rw [pUp_k q]; exact b1 j j0 (by omega)
  have l1 : ∀ (w : Nat) (i : Int) (E1 : Int → Int → Int), i + w = 1872 → 0 ≤ i → (∀ r, r ≠ 73 → E1 r = E0 r) → (∀ j, 0 ≤ j → j < i → E1 73 j = E 71 j) → PW l G 1 mX12_keepOrders bg 8 [(0, (2, 66)), (1, (0, i))] [] (n, K, F, E1) Q := by
    intro w
    induction w with
    | zero =>
      intro i E1 ei i0 n1 a1
      exact vX12_keepOrders_8 66 i ⟨fun _ => l2 16 0 E1 (by decide) (by decide) (fun r h1 _ => n1 r h1) (fun j j0 j1 => a1 j j0 (by omega)) (fun j j0 j1 => absurd j1 (by omega)), fun z => absurd (by omega) z⟩
    | succ w ih =>
      intro i E1 ei i0 n1 a1
      refine vX12_keepOrders_8 66 i ?_
      simp only [hF.f66_6, hF.f66_9, hK.k66, hK.k71, hK.k73]
      refine ⟨fun z => absurd z (by omega), fun _ => ⟨trivial, trivial, by omega, by decide, trivial, by omega, fun E2 e2 => ⟨by omega, ?_⟩⟩⟩
      refine ih (i + 1) E2 (by omega) (by omega) (fun r h1 => by rw [e2, pUp_an h1]; exact n1 r h1) (fun j j0 j1 => ?_)
      rw [e2]
      by_cases q : j = i
      · rw [q, pUp_s, n1 71 (by decide), o71 i (by omega)]
      · rw [pUp_k q]; exact a1 j j0 (by omega)
  exact l1 1872 0 E0 (by decide) (by decide) (fun _ _ => rfl) (fun j j0 j1 => absurd j1 (by omega))
theorem r_giveBack {F E : Int → Int → Int} {s : Int} (hK : KS K) (hF : FS F) (hQ : ∀ E', (∀ r, r ≠ 68 → r ≠ 71 → r ≠ 72 → E' r = E r) → RowOk (E 68) (E' 68) (cz fun j => E 71 (117 * 17 + j)) → (∀ j, 0 ≤ j → j < 1872 → E' 71 j = E 73 j) → (∀ j, 0 ≤ j → j < 16 → E' 72 j = E 74 j) → Q none (n, K, pUp F 66 8 s, E')) : PC l G 1 mX12_giveBack bg [(2, 66), (0, s)] (n, K, F, E) Q := by
  refine vX12_giveBack_0 66 s ⟨by rw [hK.k66], r_putBack hK hF (by decide) (by decide) fun g hg => vX12_giveBack_6 66 s ?_⟩
  generalize e0 : pRow E 68 g = E0
  have n0 : ∀ r, r ≠ 68 → E0 r = E r := fun r hr => by rw [← e0, pRow_ne hr]
  have g0 : E0 68 = g := by rw [← e0, pRow_at]
  have l2 : ∀ (w : Nat) (i : Int) (E1 : Int → Int → Int), i + w = 16 → 0 ≤ i → (∀ r, r ≠ 71 → r ≠ 72 → E1 r = E0 r) → (∀ j, 0 ≤ j → j < 1872 → E1 71 j = E 73 j) → (∀ j, 0 ≤ j → j < i → E1 72 j = E 74 j) → PW l G 1 mX12_giveBack bg 35 [(0, (2, 66)), (1, (0, s)), (2, (0, i))] [] (n, K, F, E1) Q := by
    intro w
    induction w with
    | zero =>
      intro i E1 ei i0 n1 a1 b1
      refine vX12_giveBack_35 66 s i ⟨fun _ => ⟨by rw [hK.k66], fun F1 f1 => ?_⟩, fun z => absurd (by omega) z⟩
      rw [f1]
      exact hQ E1 (fun r h1 h2 h3 => by rw [n1 r h2 h3, n0 r h1]) (by rw [n1 68 (by decide) (by decide), g0]; exact hg) a1 (fun j j0 j1 => b1 j j0 (by omega))
    | succ w ih =>
      intro i E1 ei i0 n1 a1 b1
      refine vX12_giveBack_35 66 s i ?_
      simp only [hF.f66_7, hF.f66_10, hK.k66, hK.k72, hK.k74]
      refine ⟨fun z => absurd z (by omega), fun _ => ⟨trivial, trivial, by omega, by decide, trivial, by omega, fun E2 e2 => ⟨by omega, ?_⟩⟩⟩
      refine ih (i + 1) E2 (by omega) (by omega) (fun r h1 h2 => by rw [e2, pUp_an h2]; exact n1 r h1 h2) (fun j j0 j1 => by rw [e2, pUp_a (by decide)]; exact a1 j j0 j1) (fun j j0 j1 => ?_)
      rw [e2]
      by_cases q : j = i
      · rw [q, pUp_s, n1 74 (by decide) (by decide), n0 74 (by decide)]
      · rw [pUp_k q]; exact b1 j j0 (by omega)
  have l1 : ∀ (w : Nat) (i : Int) (E1 : Int → Int → Int), i + w = 1872 → 0 ≤ i → (∀ r, r ≠ 71 → E1 r = E0 r) → (∀ j, 0 ≤ j → j < i → E1 71 j = E 73 j) → PW l G 1 mX12_giveBack bg 8 [(0, (2, 66)), (1, (0, s)), (2, (0, i))] [] (n, K, F, E1) Q := by
    intro w
    induction w with
    | zero =>
      intro i E1 ei i0 n1 a1
      exact vX12_giveBack_8 66 s i ⟨fun _ => l2 16 0 E1 (by decide) (by decide) (fun r h1 _ => n1 r h1) (fun j j0 j1 => a1 j j0 (by omega)) (fun j j0 j1 => absurd j1 (by omega)), fun z => absurd (by omega) z⟩
    | succ w ih =>
      intro i E1 ei i0 n1 a1
      refine vX12_giveBack_8 66 s i ?_
      simp only [hF.f66_6, hF.f66_9, hK.k66, hK.k71, hK.k73]
      refine ⟨fun z => absurd z (by omega), fun _ => ⟨trivial, trivial, by omega, by decide, trivial, by omega, fun E2 e2 => ⟨by omega, ?_⟩⟩⟩
      refine ih (i + 1) E2 (by omega) (by omega) (fun r h1 => by rw [e2, pUp_an h1]; exact n1 r h1) (fun j j0 j1 => ?_)
      rw [e2]
      by_cases q : j = i
      · rw [q, pUp_s, n1 73 (by decide), n0 73 (by decide)]
      · rw [pUp_k q]; exact a1 j j0 (by omega)
  exact l1 1872 0 E0 (by decide) (by decide) (fun _ _ => rfl) (fun j j0 j1 => absurd j1 (by omega))
end R
/-- the next draw -/
def nxD (s : Int) : Int := (s * 1103 + 12345) % 1000003
theorem nxD_rng {s : Int} : 0 ≤ nxD s ∧ nxD s < 1000003 := by unfold nxD; omega
theorem nxD_eq {s : Int} (h0 : 0 ≤ s) (h1 : s < 1000003) : (w64 (s * 1103) + 12345).tmod 1000003 = nxD s ∧ (-9223372036854775808 ≤ w64 (s * 1103) + 12345 ∧ w64 (s * 1103) + 12345 < 9223372036854775808) := by
  rw [w64_id (by omega) (by omega), Int.tmod_eq_emod_of_nonneg (by omega)]
  exact ⟨rfl, by omega, by omega⟩
noncomputable def dyS (L : Option tLaw) (mood bud : Int) : Nat → Int → (Int → Int) → (Int → Int)
  | 0, _, c => c
  | m + 1, s, c => dyS L mood bud m (nxD (nxD (nxD (nxD s)))) (if 7 ≤ nxD (nxD (nxD (nxD s))) % 8 then cWin c (nxD s % 3) (nxD (nxD s) % 4 + 2) else (sCome c L mood bud (nxD s % 3) (nxD (nxD s) % 4) (nxD (nxD (nxD s)) % 4)).2.1)
theorem cWin_lo {c : Int → Int} {r w k : Int} (r0 : 0 ≤ r) (h0 : k ≠ 3 + r) (h1 : k ≠ 9 + r) (h2 : k < 36) : cWin c r w k = c k := by
  unfold cWin cDrop rSh
  rw [if_neg (by omega), rUp_n h1, rUp_n h0]
theorem cWin_same {c : Int → Int} {r : Int} (h : c (9 + r) ≤ c (3 + r)) : cWin c r (c (3 + r)) = c := by
  unfold cWin cDrop
  have e : rUp c (3 + r) (c (3 + r)) = c := by
    funext k
    rw [rUpA]
    split
    · rename_i q; rw [q]
    · rfl
  rw [e, show max 0 (c (9 + r) - c (3 + r)) = 0 by omega]
  have e2 : rUp c (9 + r) (c (9 + r) - 0) = c := by
    funext k
    rw [rUpA]
    split
    · rename_i q; rw [q]; omega
    · rfl
  rw [e2]
  funext k
  unfold rSh
  split
  · congr 1; omega
  · rfl
theorem cinv_step {c : Int → Int} {L : Option tLaw} {mood bud s : Int} (hC : CInv c) : CInv (if 7 ≤ nxD (nxD (nxD (nxD s))) % 8 then cWin c (nxD s % 3) (nxD (nxD s) % 4 + 2) else (sCome c L mood bud (nxD s % 3) (nxD (nxD s) % 4) (nxD (nxD (nxD s)) % 4)).2.1) := by
  split
  · exact cinv_win hC (by omega) (by omega) (by omega) (by omega)
  · exact cinv_come hC
theorem sCome_2 {c : Int → Int} {L : Option tLaw} {mood bud r a b : Int} (hC : CInv c) : c 2 ≤ (sCome c L mood bud r a b).2.1 2 := by
  have cr := (com_bd (L := L) (mood := mood) (bud := bud) (r := r) (a := a) (b := b) hC ogI).2.2.1
  unfold sCome
  split
  · rename_i z
    split
    · split
      · have b0 := hC.1
        have h4 := hC.2.2.2.1 r z.1.1 z.1.2
        have t9 : ∀ k, (k < 12 ∨ 36 ≤ k) → cTick c (comS c L mood bud (fun i => i) false r a b).1 k = c k := fun k hk => by unfold cTick; rw [if_neg (by omega)]
        generalize cTick c (comS c L mood bud (fun i => i) false r a b).1 = d at *
        generalize (comS c L mood bud (fun i => i) false r a b).2.2.2 1 = v at *
        have d2 := t9 2 (by decide)
        have d9 := t9 (9 + r) (by omega)
        show c 2 ≤ cAdd d r a b v 2
        have g9 : cGrow d v (9 + r) = d (9 + r) := by unfold cGrow; rw [rUp_n (by omega), rUp_n (by omega)]
        have g2 : cGrow d v 2 = d 2 + v := by unfold cGrow; rw [rUp_s]
        unfold cAdd
        split
        · unfold cPut
          rw [rUp_n (by omega), rUp_n (by omega), rUp_n (by omega), rUp_n (by omega), g2]; omega
        · have e9 : cDrop (cGrow d v) r 1 (9 + r) = d (9 + r) - 1 := by unfold cDrop rSh; rw [if_neg (by omega), rUp_s, g9]
          have e2 : cDrop (cGrow d v) r 1 2 = d 2 + v := by unfold cDrop rSh; rw [if_neg (by omega), rUp_n (by omega), g2]
          rename_i q
          have t3 := t9 (3 + r) (by omega)
          unfold cPut
          rw [e9, rUp_n (by omega), rUp_n (by omega), rUp_n (by omega), rUp_n (by omega), e2]; omega
      · exact Int.le_refl _
    · exact Int.le_refl _
  · exact Int.le_refl _
theorem dyS_ok {L : Option tLaw} {mood bud : Int} (m : Nat) : ∀ s c, CInv c → CInv (dyS L mood bud m s c) ∧ c 2 ≤ dyS L mood bud m s c 2 := by
  induction m with
  | zero => intro s c hC; exact ⟨hC, Int.le_refl _⟩
  | succ m ih =>
    intro s c hC
    have q := ih (nxD (nxD (nxD (nxD s)))) _ (cinv_step (L := L) (mood := mood) (bud := bud) (s := s) hC)
    refine ⟨q.1, Int.le_trans ?_ q.2⟩
    split
    · rw [cWin_lo (by omega) (by omega) (by omega) (by decide)]; exact Int.le_refl _
    · exact sCome_2 hC
/-- what days changes in the class, in its loop -/
def FrJ (F E F' E' : Int → Int → Int) : Prop := (∀ r, r ≠ 19 → r ≠ 32 → r ≠ 33 → (r < 36 ∨ 40 < r) → E' r = E r) ∧ FS F' ∧ ∀ a k, a ≠ 30 → F' a k = F a k
theorem FrJ.refl {F E : Int → Int → Int} (h : FS F) : FrJ F E F E := ⟨fun _ _ _ _ _ => rfl, h, fun _ _ _ => rfl⟩
theorem FrJ.trans {F E F' E' F'' E'' : Int → Int → Int} (h : FrJ F E F' E') (h' : FrJ F' E' F'' E'') : FrJ F E F'' E'' := ⟨fun r a b c d => (h'.1 r a b c d).trans (h.1 r a b c d), h'.2.1, fun a k q => (h'.2.2 a k q).trans (h.2.2 a k q)⟩
theorem FrD.j {v : Int} {c : Int → Int} {F E F' E' : Int → Int → Int} (h : FrD 19 F E F' E') (hl : LgU (-1) v c F E F' E') : FrJ F E F' E' := by
  rcases hl with ⟨q, _⟩ | ⟨_, q1, q2, q3, q4⟩
  · omega
  · refine ⟨fun r h1 h2 h3 h4 => ?_, h.2.1, fun a k ha => ?_⟩
    · by_cases e1 : r = 11
      · rw [e1]; exact q3
      · by_cases e2 : r = 12
        · rw [e2]; exact q4
        · exact h.1 r h1 e1 e2 h2 h3 h4
    · by_cases e1 : a = 10 ∧ (k = 2 ∨ k = 3)
      · obtain ⟨rfl, e | e⟩ := e1
        · rw [e]; exact q1
        · rw [e]; exact q2
      · exact h.2.2 a k ha e1
theorem LwC.keepJ {K : Int → Nat × Nat} {F E F' E' : Int → Int → Int} {L : Option tLaw} (h : LwC K F E L) (hp : FrJ F E F' E') : LwC K F' E' L := by
  refine ⟨?_, h.2⟩
  have e7 : E' 7 = E 7 := hp.1 7 (by decide) (by decide) (by decide) (by decide)
  rw [hp.2.2 1 7 (by decide), hp.2.2 1 6 (by decide), e7]
  exact h.1.imp id (fun ⟨L', e, q, w⟩ => ⟨L', e, q, w.keep (fun a ha => funext fun k => hp.2.2 a k (by omega)) (fun a ha => hp.1 a (by omega) (by omega) (by omega) (by omega))⟩)
section C
variable {l : Launch} {G : pG} {bg : Nat × Nat} {n : Nat} {K : Int → Nat × Nat} {Q : Option pV → pM → Prop} {L : Option tLaw} {mood bud N : Int}
theorem c_days_52 (hK : KS K) (m0 : 0 ≤ mood ∧ mood ≤ 9) (N60 : N ≤ 60) (m : Nat) : ∀ (i s : Int) (c : Int → Int) (F E : Int → Int → Int), i + m = N → 0 ≤ i → 0 ≤ s → s < 1000003 → FS F → cz (E 19) = c → CInv c → LwC K F E L → E 4 2 = mood → E 4 0 = bud → ((0 ≤ F 10 2 ∧ F 10 2 < 16) ∧ 0 ≤ F 10 3 ∧ F 10 3 ≤ 16) →
    (∀ F' E' s', FrJ F E F' E' → cz (E' 19) = dyS L mood bud m s c → PW l G 32 mX11_days bg 52 [(0, (2, 0)), (2, (0, N)), (3, (0, s')), (4, (0, N))] [] (n, K, F', E') Q) →
    PW l G 32 mX11_days bg 52 [(0, (2, 0)), (2, (0, N)), (3, (0, s)), (4, (0, i))] [] (n, K, F, E) Q := by
  induction m with
  | zero =>
    intro i s c F E ei i0 s0 s1 hF hc hC hl hm hb hg hQ
    obtain rfl : i = N := by omega
    exact hQ F E s (FrJ.refl hF) hc
  | succ m ih =>
    intro i s c F E ei i0 s0 s1 hF hc hC hl hm hb hg hQ
    obtain ⟨a1, a2⟩ := nxD_eq s0 s1
    have r1 := nxD_rng (s := s)
    obtain ⟨b1, b2⟩ := nxD_eq r1.1 r1.2
    have r2 := nxD_rng (s := nxD s)
    obtain ⟨c1, c2⟩ := nxD_eq r2.1 r2.2
    have r3 := nxD_rng (s := nxD (nxD s))
    obtain ⟨d1, d2⟩ := nxD_eq r3.1 r3.2
    have r4 := nxD_rng (s := nxD (nxD (nxD s)))
    refine vX11_days_52 0 N s i ⟨fun z => absurd z (by omega), fun _ => ?_⟩
    rw [a1]
    refine ⟨a2, by omega, fun a3 e3 a4 e4 => ?_⟩
    subst e4
    rw [b1]
    refine ⟨b2, by omega, c2, fun a5 e5 => ?_⟩
    subst e5
    rw [c1]
    refine ⟨by omega, d2, fun a6 e6 => ?_⟩
    rw [d1] at e6
    rw [Int.tmod_eq_emod_of_nonneg r1.1] at e3
    rw [Int.tmod_eq_emod_of_nonneg r2.1, Int.tmod_eq_emod_of_nonneg r3.1]
    subst e6 e3
    rw [Int.tmod_eq_emod_of_nonneg r4.1]
    simp only [hF.f0_6, hK.k0, hK.k18]
    refine ⟨by omega, fun z => ⟨trivial, by omega, trivial, ?_⟩, fun z => ⟨trivial, ?_⟩⟩
    · have h9 := hC.2.2.2.1 (nxD s % 3) (by omega) (by omega)
      have rd : E 19 (9 + nxD s % 3) = c (9 + nxD s % 3) := by rw [← hc, cz_in (by omega) (by omega)]
      refine c_setWindow (c := 19) (by rw [hK.k18]) hF.f18_0 hK.k19 (by decide) (by omega) (by omega) (by omega) (by omega) (by omega) (by omega) ?_
      refine vX11_days_134 0 N _ i _ ⟨by omega, ?_⟩
      have w1 : FrJ F E F (pRow E 19 (cWin (E 19) (nxD s % 3) (nxD (nxD s) % 4 + 2))) := ⟨fun r h1 _ _ _ => pRow_ne h1, hF, fun _ _ _ => rfl⟩
      refine ih (i + 1) _ (cWin c (nxD s % 3) (nxD (nxD s) % 4 + 2)) F _ (by omega) (by omega) r4.1 r4.2 hF (by rw [pRow_at, cz_win (by omega) (by omega) (by omega), hc]) (cinv_win hC (by omega) (by omega) (by omega) (by omega)) (hl.keepJ w1) (by rw [pRow_ne (by decide)]; exact hm) (by rw [pRow_ne (by decide)]; exact hb) hg fun F' E' s' w' c' => hQ F' E' s' (w1.trans w') ?_
      unfold dyS
      rw [if_pos z]
      exact c'
    · refine c_comeTo hK hF (Or.inr ⟨rfl, rfl⟩) (Or.inl rfl) hc hC hl hm m0 hb hg fun F1 E1 w1 cy lg _ => ?_
      have g1 := w1.j lg
      refine vX11_days_117 0 N _ i _ ⟨by omega, ?_⟩
      have hg1 : (0 ≤ F1 10 2 ∧ F1 10 2 < 16) ∧ 0 ≤ F1 10 3 ∧ F1 10 3 ≤ 16 := by rw [g1.2.2 10 2 (by decide), g1.2.2 10 3 (by decide)]; exact hg
      refine ih (i + 1) _ _ F1 E1 (by omega) (by omega) r4.1 r4.2 g1.2.1 cy (cinv_come hC) (hl.keepJ g1) (by rw [g1.1 4 (by decide) (by decide) (by decide) (by decide)]; exact hm) (by rw [g1.1 4 (by decide) (by decide) (by decide) (by decide)]; exact hb) hg1 fun F' E' s' w' c' => hQ F' E' s' (g1.trans w') ?_
      unfold dyS
      rw [if_neg z]
      exact c'
end C
