/-! A TUPLE COMES: comeNow in the reference -/
def tkF (g t : Int → Int) (i N : Int) : Int → Int := fun j => if 18 + 6 * i ≤ j ∧ j < 18 + 6 * N ∧ (j - 18) % 6 = 5 then t ((j - 18) / 6) else g j
theorem tkF_none {g t : Int → Int} {i : Int} : tkF g t i i = g := by
  funext j
  unfold tkF
  rw [if_neg (by omega)]
theorem tkF_step {g t : Int → Int} {i N : Int} (h : i < N) : tkF (rUp g (18 + 6 * i + 5) (t i)) t (i + 1) N = tkF g t i N := by
  funext j
  unfold tkF
  by_cases e : 18 + 6 * i ≤ j ∧ j < 18 + 6 * N ∧ (j - 18) % 6 = 5
  · rw [if_pos e]
    by_cases q : j = 18 + 6 * i + 5
    · rw [if_neg (by omega), q, rUp_s]
      congr 1
      omega
    · rw [if_pos (by omega)]
  · rw [if_neg e, if_neg (by omega), rUp_n (by omega)]
theorem tkF_sh {g t : Int → Int} : sh6 (tkF g t 0 (g 6)) = cTick (sh6 g) t := by
  funext k
  have s0 : sh6 g 0 = g 6 := sh6_at (by decide)
  have sk : sh6 g k = g (k + 6) := sh6_at rfl
  have s1 : sh6 (tkF g t 0 (g 6)) k = tkF g t 0 (g 6) (k + 6) := sh6_at rfl
  rw [s1]
  unfold tkF cTick
  rw [s0, sk, show k + 6 - 18 = k - 12 by omega]
  by_cases e : 12 ≤ k ∧ k < 12 + g 6 * 6 ∧ (k - 12) % 6 = 5
  · rw [if_pos e, if_pos (by omega)]
  · rw [if_neg e, if_neg (by omega)]
/-- what comeNow changes -/
def FrN (F E F' E' : Int → Int → Int) : Prop := (∀ r, r ≠ 68 → r ≠ 71 → r ≠ 72 → r ≠ 84 → (r < 86 ∨ 95 < r) → E' r = E r) ∧ FS F' ∧ ∀ a k, ¬ (a = 66 ∧ (k = 8 ∨ k = 34 ∨ k = 38 ∨ k = 39 ∨ k = 40 ∨ k = 47 ∨ k = 49 ∨ k = 50 ∨ k = 51 ∨ k = 52 ∨ k = 53 ∨ k = 56)) → F' a k = F a k
theorem FrV.n {F E F' E' : Int → Int → Int} (h : FrV F E F' E') : FrN F E F' E' := ⟨fun r _ _ _ h4 h5 => h.1 r h4 h5, h.2.1, fun a k q => h.2.2 a k (by omega)⟩
theorem FrN.refl {F E : Int → Int → Int} (h : FS F) : FrN F E F E := ⟨fun _ _ _ _ _ _ => rfl, h, fun _ _ _ => rfl⟩
theorem FrN.trans {F E F' E' F'' E'' : Int → Int → Int} (h : FrN F E F' E') (h' : FrN F' E' F'' E'') : FrN F E F'' E'' := ⟨fun r a b c d e => (h'.1 r a b c d e).trans (h.1 r a b c d e), h'.2.1, fun a k q => (h'.2.2 a k q).trans (h.2.2 a k q)⟩
def LgV (v : Int) (c : Int → Int) (F E F' E' : Int → Int → Int) : Prop :=
  (0 ≤ v ∧ (0 ≤ F' 66 8 ∧ F' 66 8 ≤ 16) ∧ lgR (F' 66 8) (E' 72) (E' 71) = lgPush (lgR (F 66 8) (E 72) (E 71)) (0, c) ∧ UnOk (E 71) (E' 71)) ∨
  (v < 0 ∧ F' 66 8 = F 66 8 ∧ E' 71 = E 71 ∧ E' 72 = E 72)
section R
variable {l : Launch} {G : pG} {bg : Nat × Nat} {n : Nat} {K : Int → Nat × Nat} {F : Int → Int → Int} {Q : Option pV → pM → Prop} {r a b : Int}
theorem r_comeNow_add {E : Int → Int → Int} {i : Int} (hK : KS K) (hF : FS F) (r0 : 0 ≤ r) (r1 : r < 3) (hi : E 68 6 ≤ i) (s0 : 0 ≤ E 68 7) (s1 : E 68 7 < 999) (w0 : 1 ≤ E 68 (9 + r)) (w1 : E 68 (9 + r) ≤ 9) (h0 : 0 ≤ E 68 (15 + r)) (h1 : E 68 (15 + r) ≤ E 68 (9 + r)) (m0 : 0 ≤ E 68 8 + F 66 51) (m1 : E 68 8 + F 66 51 < 2147483648)
    (hQ : ∀ g, sh6 g = cAdd (sh6 (E 68)) r a b (F 66 51) → (∀ j, (j < 6 ∨ 123 ≤ j) → g j = E 68 j) → Q (some (0, F 66 51)) (n, K, F, pRow E 68 g)) : PW l G 7 mX12_comeNow bg 69 [(0, (2, 66)), (1, (0, r)), (2, (0, a)), (3, (0, b)), (4, (0, i))] [] (n, K, F, E) Q := by
  refine vX12_comeNow_69 66 r a b i ?_
  simp only [hF.f66_3, hK.k66, hK.k68]
  rw [w32_id (by omega) (by omega)]
  refine ⟨trivial, trivial, by decide, fun _ => ⟨by decide, by omega, by decide, fun E1 e1 => ⟨by decide, fun E2 e2 => ?_⟩⟩, fun z => absurd hi z⟩
  have q2 : E2 = pRow E 68 (rUp (rUp (E 68) 7 (E 68 7 + 1)) 8 (E 68 8 + F 66 51)) := by
    rw [e2, e1, pUp_row, pUp_row, pRow_row, pRow_at]
  clear e1 e2
  subst q2
  have g15 : rUp (rUp (E 68) 7 (E 68 7 + 1)) 8 (E 68 8 + F 66 51) (15 + r) = E 68 (15 + r) := by rw [rUp_n (by omega), rUp_n (by omega)]
  have g9 : rUp (rUp (E 68) 7 (E 68 7 + 1)) 8 (E 68 8 + F 66 51) (9 + r) = E 68 (9 + r) := by rw [rUp_n (by omega), rUp_n (by omega)]
  have g7 : rUp (rUp (E 68) 7 (E 68 7 + 1)) 8 (E 68 8 + F 66 51) 7 = E 68 7 + 1 := by rw [rUp_n (by decide), rUp_s]
  have gs : sh6 (rUp (rUp (E 68) 7 (E 68 7 + 1)) 8 (E 68 8 + F 66 51)) = cGrow (sh6 (E 68)) (F 66 51) := by
    unfold cGrow
    rw [sh6_up (k := 2) (by decide), sh6_up (k := 1) (by decide), sh6_at (g := E 68) (k := 1) (j := 7) (by decide), sh6_at (g := E 68) (k := 2) (j := 8) (by decide)]
  have go : ∀ j, (j < 6 ∨ 123 ≤ j) → rUp (rUp (E 68) 7 (E 68 7 + 1)) 8 (E 68 8 + F 66 51) j = E 68 j := fun j hj => by rw [rUp_n (by omega), rUp_n (by omega)]
  generalize hgr : rUp (rUp (E 68) 7 (E 68 7 + 1)) 8 (E 68 8 + F 66 51) = gr at *
  have c9 : sh6 (E 68) (9 + r) = E 68 (15 + r) := sh6_at (by omega)
  have c3 : sh6 (E 68) (3 + r) = E 68 (9 + r) := sh6_at (by omega)
  simp only [pRow_at, g15, g9]
  refine ⟨by omega, by omega, by omega, by omega, fun z => ⟨by omega, by omega, by omega, by omega, fun a3 e3 => ⟨by omega, fun E4 e4 => ⟨by omega, by omega, fun E5 e5 => ⟨by omega, by omega, fun E6 e6 => ?_⟩⟩⟩⟩, fun z => ?_⟩
  · have q6 : E6 68 (15 + r) = E 68 (15 + r) := by
      rw [e6, pUp_k (by omega), e5, pUp_k (by omega), e4, pUp_k (by omega), pRow_at, g15]
    have q5 : E5 68 7 = E 68 7 + 1 := by rw [e5, pUp_k (by omega), e4, pUp_k (by omega), pRow_at, g7]
    rw [q6]
    refine ⟨by omega, fun E7 e7 => ?_⟩
    rw [q5] at e6
    subst e7 e6 e5 e4
    simp only [pUp_row, pRow_row, pRow_at]
    refine hQ _ ?_ fun j hj => ?_
    · have k9 : sh6 gr (9 + r) = E 68 (15 + r) := by rw [sh6_at (j := 15 + r) (by omega), g15]
      have k1 : sh6 gr 1 = E 68 7 + 1 := by rw [sh6_at (j := 7) (by decide), g7]
      unfold cAdd
      rw [if_pos (by rw [c9, c3]; omega), ← gs]
      unfold cPut
      rw [sh6_up (k := 9 + r) (by omega), sh6_up (k := 36 + (r * 9 + E 68 (15 + r)) * 3 + 2) (by omega), sh6_up (k := 36 + (r * 9 + E 68 (15 + r)) * 3 + 1) (by omega), sh6_up (k := 36 + (r * 9 + E 68 (15 + r)) * 3) (by omega), k9, k1]
    · rw [rUp_n (by omega), rUp_n (by omega), rUp_n (by omega), rUp_n (by omega)]; exact go j hj
  · refine r_dropEldest hK hF r0 r1 (by decide) (by rw [pRow_at, g15]; omega) (by rw [pRow_at, g15]; omega) fun g hg ho => ?_
    rw [pRow_at] at hg ho
    have d9 : g (15 + r) = E 68 (15 + r) - 1 := by
      have := sh6_at (g := g) (k := 9 + r) (j := 15 + r) (by omega)
      rw [← this, hg, cDrop_9 r0 r1, sh6_at (j := 15 + r) (by omega), g15]
    have d7 : g 7 = E 68 7 + 1 := by
      have := sh6_at (g := g) (k := 1) (j := 7) (by decide)
      rw [← this, hg, cDrop_lo r0 (by decide) (by omega), sh6_at (j := 7) (by decide), g7]
    rw [pRow_row]
    refine vX12_comeNow_158 66 r a b ?_
    simp only [hF.f66_3, hK.k66, hK.k68, pRow_at, d9]
    refine ⟨trivial, by omega, trivial, by omega, by omega, by omega, by omega, by omega, fun a1 e1 => ⟨by decide, by omega, fun E2 e2 => ⟨by omega, by omega, fun E3 e3 => ⟨by omega, by decide, by omega, fun E4 e4 => ?_⟩⟩⟩⟩
    have q4 : E4 68 (15 + r) = E 68 (15 + r) - 1 := by
      rw [e4, pUp_k (by omega), e3, pUp_k (by omega), e2, pUp_k (by omega), pRow_at, d9]
    have q3 : E3 68 7 = E 68 7 + 1 := by rw [e3, pUp_k (by omega), e2, pUp_k (by omega), pRow_at, d7]
    rw [q4]
    refine ⟨by omega, fun E5 e5 => ?_⟩
    rw [q3] at e4
    subst e5 e4 e3 e2
    simp only [pUp_row, pRow_row, pRow_at]
    refine hQ _ ?_ fun j hj => ?_
    · have k9 : sh6 g (9 + r) = E 68 (15 + r) - 1 := by rw [sh6_at (j := 15 + r) (by omega), d9]
      have k1 : sh6 g 1 = E 68 7 + 1 := by rw [sh6_at (j := 7) (by decide), d7]
      unfold cAdd
      rw [if_neg (by rw [c9, c3]; omega), ← gs, ← hg]
      unfold cPut
      rw [sh6_up (k := 9 + r) (by omega), sh6_up (k := 36 + (r * 9 + (E 68 (15 + r) - 1)) * 3 + 2) (by omega), sh6_up (k := 36 + (r * 9 + (E 68 (15 + r) - 1)) * 3 + 1) (by omega), sh6_up (k := 36 + (r * 9 + (E 68 (15 + r) - 1)) * 3) (by omega), k9, k1]
    · rw [rUp_n (by omega), rUp_n (by omega), rUp_n (by omega), rUp_n (by omega), ho j hj]; exact go j hj
theorem r_comeNow_69 {N : Int} (hK : KS K) (hF : FS F) (N4 : N ≤ 4) (w : Nat) : ∀ (i : Int) (E : Int → Int → Int), E 68 6 = N → i + w = N → 0 ≤ i → PW l G 7 mX12_comeNow bg 69 [(0, (2, 66)), (1, (0, r)), (2, (0, a)), (3, (0, b)), (4, (0, N))] [] (n, K, F, pRow E 68 (tkF (E 68) (E 92) i N)) Q → PW l G 7 mX12_comeNow bg 69 [(0, (2, 66)), (1, (0, r)), (2, (0, a)), (3, (0, b)), (4, (0, i))] [] (n, K, F, E) Q := by
  induction w with
  | zero =>
    intro i E hN e i0 q
    obtain rfl : i = N := by omega
    rw [tkF_none, pRow_self] at q
    exact q
  | succ w ih =>
    intro i E hN e i0 q
    refine vX12_comeNow_69 66 r a b i ?_
    simp only [hF.f66_3, hF.f66_46, hK.k66, hK.k68, hK.k92]
    refine ⟨trivial, trivial, by decide, fun z => absurd z (by omega), fun _ => ⟨by omega, by omega, by omega, trivial, by omega, by decide, by omega, fun E1 e1 => ⟨by omega, ?_⟩⟩⟩
    refine ih (i + 1) E1 (by rw [e1, pUp_k (by omega)]; exact hN) (by omega) (by omega) ?_
    rw [e1, pUp_row, pRow_at, pRow_row, pRow_ne (by decide), tkF_step (by omega)]
    exact q
variable {c : Int → Int} {L : Option tLaw} {mood bud : Int}
/-- the reference lets a tuple come -/
theorem r_comeNow {E : Int → Int → Int} (hK : KS K) (hF : FS F) (hc : cz (sh6 (E 68)) = c) (hC : CInv c) (h20 : F 66 20 = 0) (hl : LawF (E 68) L) (hlo : LwOk L) (hm : E 68 5 = mood) (m0 : 0 ≤ mood ∧ mood ≤ 9) (hbu : E 68 3 = bud) (hlg : 0 ≤ F 66 8 ∧ F 66 8 ≤ 16)
    (hQ : ∀ F' E', FrN F E F' E' → RowOk (E 68) (E' 68) (sCome c L mood bud r a b).2.1 → LgV (sCome c L mood bud r a b).1 c F E F' E' → ((0 ≤ (sCome c L mood bud r a b).1 ∨ (sCome c L mood bud r a b).1 = -5) → RepR F' E' (c 0) (sCome c L mood bud r a b).2.2) → Q (some (0, (sCome c L mood bud r a b).1)) (n, K, F', E')) :
    PC l G 7 mX12_comeNow bg [(2, 66), (0, r), (0, a), (0, b)] (n, K, F, E) Q := by
  have b0 := hC.1
  have b1 := hC.2.1
  have b2 := hC.2.2.1
  have rd7 : E 68 7 = c 1 := by rw [← hc, czs_at (j := 7) (by decide) (by decide) (by decide)]
  have cr := com_bd (L := L) (mood := mood) (bud := bud) (r := r) (a := a) (b := b) hC ogI
  unfold sCome at hQ
  refine vX12_comeNow_0 66 r a b ?_
  simp only [hF.f66_3, hK.k66, hK.k68, rd7]
  have noL : ∀ F' E' v, FrV F E F' E' → v < 0 → LgV v c F E F' E' := fun F' E' v w hv => Or.inr ⟨hv, w.2.2 66 8 (by omega), w.1 71 (by decide) (by decide), w.1 72 (by decide) (by decide)⟩
  have row : ∀ F' E', FrV F E F' E' → RowOk (E 68) (E' 68) c := fun F' E' w => by
    rw [w.1 68 (by decide) (by decide)]; exact ⟨hc, fun _ _ => rfl⟩
  refine ⟨fun z => ⟨trivial, trivial, by decide, fun q => ?_, fun q => ?_⟩, fun z => ?_⟩
  · simp only [if_pos z] at hQ
    simp only [if_neg (show ¬ (c 1 < 999 ∧ barS L (wC (bB c r a b mood) (-1) (-1) (-1) (-1)) = 0) by omega)] at hQ
    have w := FrV.refl (E := E) hF
    exact hQ F E w.n (row _ _ w) (noL _ _ _ w (by decide)) (fun z => absurd z (by decide))
  · simp only [if_pos z] at hQ
    obtain ⟨zr, za, zb⟩ := z
    have hB := bB_ok hC zr za zb m0
    refine r_isBarred (W := wC (bB c r a b mood) (-1) (-1) (-1) (-1)) hK hF h20 (by omega) (by omega) hl ⟨rfl, rfl, rfl, rfl, rfl, rfl, rfl, hm.symm, by rw [rd7]; rfl⟩ (wC_ok hB (by decide) (by decide) (by decide) (by decide)) fun F1 E1 f1 r1 => ?_
    have w1 : FrV F E F1 E1 := f1.v r1
    refine vX12_comeNow_31 66 r a b _ ⟨fun y => ?_, fun y => ?_⟩
    · simp only [if_pos (show c 1 < 999 ∧ barS L (wC (bB c r a b mood) (-1) (-1) (-1) (-1)) = 0 from ⟨by omega, y⟩)] at hQ
      have hF1 := w1.2.1
      simp only [hF1.f66_3, hK.k66, hK.k68]
      refine ⟨trivial, fun F2 f2 => ⟨trivial, by decide, ?_⟩⟩
      have hF2 : FS F2 := by rw [f2]; exact hF1.up (by decide +kernel)
      have n12 : FrN F E F2 E1 := w1.n.trans ⟨fun _ _ _ _ _ _ => rfl, hF2, fun p k q => by rw [f2]; unfold pUp; rw [if_neg (by omega)]⟩
      have e68 : E1 68 = E 68 := w1.1 68 (by decide) (by decide)
      have k20 : F2 66 20 = 0 := (n12.2.2 66 20 (by omega)).trans h20
      have k56 : F2 66 56 = 0 := by rw [f2, pUp_s]
      rw [e68, hbu]
      refine r_comes (c := c) (L := L) (bud := bud) (mood := mood) (og := fun i => i) (fx := false) hK hF2 (by rw [e68]; exact hc) hC ⟨k20, by rw [e68]; exact hl, hlo⟩ ⟨ogI, Or.inl ⟨rfl, k56⟩⟩ (by rw [e68]; exact hm) m0 zr za zb fun F3 E3 v w3 rp hv => ?_
      have n13 := n12.trans w3.n
      have hF3 := w3.2.1
      have f68 : E3 68 = E 68 := (w3.1 68 (by decide) (by decide)).trans e68
      have l3 : F3 66 8 = F 66 8 := by
        rw [w3.2.2 66 8 (by omega), f2, pUp_k (by decide), w1.2.2 66 8 (by omega)]
      have l71 : E3 71 = E 71 := (w3.1 71 (by decide) (by decide)).trans (w1.1 71 (by decide) (by decide))
      have l72 : E3 72 = E 72 := (w3.1 72 (by decide) (by decide)).trans (w1.1 72 (by decide) (by decide))
      generalize eσ : comS c L mood bud (fun i => i) false r a b = σ at *
      refine vX12_comeNow_55 66 r a b v ⟨fun g => ?_, fun g => ?_⟩
      · have g0 : σ.2.2.2 4 = 0 := by omega
        simp only [if_pos g0] at hQ
        refine ⟨by rw [hK.k66], r_remember hK hF3 (by omega) (by omega) fun nu un so u1 u2 lg uo => ?_⟩
        rw [l3, l71, l72, f68, hc] at lg
        rw [l71] at uo
        have hF4 : FS (pUp F3 66 8 nu) := hF3.up (by decide +kernel)
        refine vX12_comeNow_66 66 r a b ?_
        have e4 : pRow (pRow E3 71 un) 72 so 68 = E 68 := by rw [pRow_ne (by decide), pRow_ne (by decide)]; exact f68
        have e92 : pRow (pRow E3 71 un) 72 so 92 = E3 92 := by rw [pRow_ne (by decide), pRow_ne (by decide)]
        have rd : ∀ k j, 0 ≤ k → k < 117 → j = k + 6 → E 68 j = c k := fun k j k0 k1 e => by rw [← hc, czs_at k0 k1 e]
        have rd6 := rd 0 6 (by decide) (by decide) (by decide)
        have rd8 := rd 2 8 (by decide) (by decide) (by decide)
        have rd9 := rd (3 + r) (9 + r) (by omega) (by omega) (by omega)
        have rd15 := rd (9 + r) (15 + r) (by omega) (by omega) (by omega)
        have h4 := hC.2.2.2.1 r zr.1 zr.2
        have b3 := cr.2.2.1
        have f51 : pUp F3 66 8 nu 66 51 = σ.2.2.2 1 := by rw [pUp_k (by decide)]; exact rp.2.2.2.2.1
        refine r_comeNow_69 (N := c 0) hK hF4 b0.2 (c 0).toNat 0 _ (by rw [e4]; exact rd6) (by omega) (by decide) ?_
        rw [e4, e92]
        have tk : ∀ j, (j < 18 ∨ 42 ≤ j) → tkF (E 68) (E3 92) 0 (c 0) j = E 68 j := fun j hj => by
          unfold tkF
          rw [if_neg (by omega)]
        have ts : cz (sh6 (tkF (E 68) (E3 92) 0 (c 0))) = cTick c σ.1 := by
          rw [← rd6, tkF_sh, cz_tick (by rw [sh6_at (j := 6) (by decide)]; omega) (by rw [sh6_at (j := 6) (by decide)]; omega), hc]
          exact cTick_congr rp.1
        generalize eg : tkF (E 68) (E3 92) 0 (c 0) = g1 at *
        refine r_comeNow_add hK hF4 zr.1 zr.2 (by rw [pRow_at, tk 6 (by decide)]; omega) (by rw [pRow_at, tk 7 (by decide)]; omega) (by rw [pRow_at, tk 7 (by decide)]; omega) (by rw [pRow_at, tk _ (by omega)]; omega) (by rw [pRow_at, tk _ (by omega)]; omega) (by rw [pRow_at, tk _ (by omega)]; omega) (by rw [pRow_at, tk _ (by omega), tk _ (by omega)]; omega) (by rw [pRow_at, tk 8 (by decide), f51]; omega) (by rw [pRow_at, tk 8 (by decide), f51]; omega) fun g2 hg ho => ?_
        rw [f51, pRow_at] at hg
        rw [f51, pRow_row]
        refine hQ _ _ ⟨fun p h1 h2 h3 h4' h5 => ?_, hF4, fun p k q => ?_⟩ ⟨?_, fun j hj => ?_⟩ (Or.inl ⟨b3.1, ?_, ?_, ?_⟩) fun _ => rp.same ?_ ?_ ?_ ?_ ?_ ?_ ?_
        · rw [pRow_ne h1, pRow_ne h3, pRow_ne h2]; exact n13.1 p h1 h2 h3 h4' h5
        · unfold pUp; rw [if_neg (by omega)]; exact n13.2.2 p k q
        · rw [pRow_at, hg, cz_add zr.1 zr.2 (by rw [sh6_at (j := 15 + r) (by omega), tk _ (by omega)]; omega) (by rw [sh6_at (j := 15 + r) (by omega), sh6_at (j := 9 + r) (by omega), tk _ (by omega), tk _ (by omega)]; omega) (by rw [sh6_at (j := 9 + r) (by omega), tk _ (by omega)]; omega) (by rw [sh6_at (j := 9 + r) (by omega), tk _ (by omega)]; omega), ts]
        · rw [pRow_at, ho j hj, pRow_at, tk j (by omega)]
        · rw [pUp_s]; exact ⟨u1, u2⟩
        · rw [pUp_s, pRow_ne (by decide), pRow_at, pRow_ne (by decide), pRow_ne (by decide), pRow_at]; exact lg
        · rw [pRow_ne (by decide), pRow_ne (by decide), pRow_at]; exact uo
        · rw [pRow_ne (by decide), pRow_ne (by decide), pRow_ne (by decide)]
        · rw [pRow_ne (by decide), pRow_ne (by decide), pRow_ne (by decide)]
        · rw [pRow_ne (by decide), pRow_ne (by decide), pRow_ne (by decide)]
        · rw [pUp_k (by decide)]
        · rw [pUp_k (by decide)]
        · rw [pUp_k (by decide)]
        · rw [pUp_k (by decide)]
      · have g0 : ¬ σ.2.2.2 4 = 0 := by omega
        simp only [if_neg g0] at hQ
        exact hQ F3 E3 n13 (by rw [f68]; exact ⟨hc, fun _ _ => rfl⟩) (Or.inr ⟨by decide, l3, l71, l72⟩) (fun _ => rp)
    · simp only [if_neg (show ¬ (c 1 < 999 ∧ barS L (wC (bB c r a b mood) (-1) (-1) (-1) (-1)) = 0) from fun w => y w.2)] at hQ
      exact hQ F1 E1 w1.n (row _ _ w1) (noL _ _ _ w1 (by decide)) (fun z => absurd z (by decide))
  · simp only [if_neg z] at hQ
    have w := FrV.refl (E := E) hF
    exact hQ F E w.n (row _ _ w) (noL _ _ _ w (by decide)) (fun z => absurd z (by decide))
end R
