/-! A TUPLE COMES: comeTo in the class -/
noncomputable def sCome (c : Int → Int) (L : Option tLaw) (mood bud r a b : Int) : Int × (Int → Int) × tS :=
  if (0 ≤ r ∧ r < 3) ∧ (0 ≤ a ∧ a < 10) ∧ (0 ≤ b ∧ b < 10) then
    if c 1 < 999 ∧ barS L (wC (bB c r a b mood) (-1) (-1) (-1) (-1)) = 0 then
      if (comS c L mood bud (fun i => i) false r a b).2.2.2 4 = 0 then ((comS c L mood bud (fun i => i) false r a b).2.2.2 1, cAdd (cTick c (comS c L mood bud (fun i => i) false r a b).1) r a b ((comS c L mood bud (fun i => i) false r a b).2.2.2 1), comS c L mood bud (fun i => i) false r a b)
      else (-5, c, comS c L mood bud (fun i => i) false r a b)
    else (-3, c, sI c)
  else (-1, c, sI c)
theorem ogI {c : Int → Int} : OgOk c (fun i => i) false := ⟨fun _ h0 h1 => ⟨h0, h1⟩, fun _ _ => rfl⟩
theorem sCome_v {c : Int → Int} {L : Option tLaw} {mood bud r a b : Int} (hC : CInv c) : 0 ≤ (sCome c L mood bud r a b).1 ∨ (sCome c L mood bud r a b).1 = -1 ∨ (sCome c L mood bud r a b).1 = -2 ∨ (sCome c L mood bud r a b).1 = -3 ∨ (sCome c L mood bud r a b).1 = -5 ∨ (sCome c L mood bud r a b).1 = -6 := by
  have b1 := (com_bd (L := L) (mood := mood) (bud := bud) (r := r) (a := a) (b := b) hC ogI).2.2.1
  unfold sCome
  split
  · split
    · split
      · exact Or.inl b1.1
      · dsimp only; omega
    · dsimp only; omega
  · dsimp only; omega
theorem com_bd2 {c : Int → Int} {L : Option tLaw} {mood bud : Int} {og : Int → Int} {fx : Bool} {r a b : Int} (hC : CInv c) (hog : OgOk c og fx) : SBd (comS c L mood bud og fx r a b) (20000 * c 1 + 15581) 15581 := by
  have b0 := hC.1
  have b1 := hC.2.1
  have xl := Xb_le (k := (c 0).toNat) (by omega)
  have s2 : SBd (sI c) (20000 * c 1) 0 := by
    have q := sI_bd hC
    refine ⟨fun o => ?_, q.2⟩
    show -(20000 * c 1) ≤ (if 0 ≤ o ∧ o < c 0 then c (12 + o * 6 + 5) else 0) ∧ (if 0 ≤ o ∧ o < c 0 then c (12 + o * 6 + 5) else 0) ≤ 20000 * c 1
    by_cases h : 0 ≤ o ∧ o < c 0
    · have q := (hC.2.2.2.2.1 o h.1 h.2).2.2.1
      rw [if_pos h, show 12 + o * 6 + 5 = 17 + 6 * o by omega]
      omega
    · rw [if_neg h]; omega
  exact (pS_bd (fun _ _ _ _ => csS_rng) hC hog.1 (c 0).toNat 0 0 0 _ _ _ _ _ (by decide) (by omega) s2).wide (by omega) (by omega)
theorem cinv_come {c : Int → Int} {L : Option tLaw} {mood bud r a b : Int} (hC : CInv c) : CInv (sCome c L mood bud r a b).2.1 := by
  have bd := com_bd2 (L := L) (mood := mood) (bud := bud) (r := r) (a := a) (b := b) hC ogI
  unfold sCome
  split
  · rename_i z
    split
    · rename_i w
      split
      · have b1 := bd.2.2.1
        exact cinv_add hC z.1.1 z.1.2 z.2.1.1 z.2.1.2 z.2.2.1 z.2.2.2 w.1 b1.1 (by omega) (fun o o0 o1 => by have := bd.1 o; omega)
      · exact hC
    · exact hC
  · exact hC
theorem cTick_congr {c t t' : Int → Int} (h : ∀ o, 0 ≤ o → o < c 0 → t o = t' o) : cTick c t = cTick c t' := by
  funext k
  unfold cTick
  by_cases e : 12 ≤ k ∧ k < 12 + c 0 * 6 ∧ (k - 12) % 6 = 5
  · rw [if_pos e, if_pos e]; exact h _ (by omega) (by omega)
  · rw [if_neg e, if_neg e]
def LwC (K : Int → Nat × Nat) (F E : Int → Int → Int) (L : Option tLaw) : Prop := ((L = none ∧ F 1 7 = -1) ∨ ∃ L', L = some L' ∧ (0 ≤ F 1 7 ∧ F 1 7 < F 1 6 ∧ F 1 6 ≤ 6) ∧ LawC K F E (E 7 (F 1 7)) L') ∧ LwOk L
/-- what comeTo changes -/
def FrD (y : Int) (F E F' E' : Int → Int → Int) : Prop := (∀ r, r ≠ y → r ≠ 11 → r ≠ 12 → r ≠ 32 → r ≠ 33 → (r < 36 ∨ 40 < r) → E' r = E r) ∧ FS F' ∧ ∀ a k, a ≠ 30 → ¬ (a = 10 ∧ (k = 2 ∨ k = 3)) → F' a k = F a k
def LgU (u v : Int) (c : Int → Int) (F E F' E' : Int → Int → Int) : Prop :=
  (u = 10 ∧ 0 ≤ v ∧ ((0 ≤ F' 10 2 ∧ F' 10 2 < 16) ∧ 0 ≤ F' 10 3 ∧ F' 10 3 ≤ 16) ∧ lgC (F' 10 2) (F' 10 3) (E' 11) (E' 12) = lgPush (lgC (F 10 2) (F 10 3) (E 11) (E 12)) (0, c)) ∨
  ((u = -1 ∨ v < 0) ∧ F' 10 2 = F 10 2 ∧ F' 10 3 = F 10 3 ∧ E' 11 = E 11 ∧ E' 12 = E 12)
/-- what the class's route holds of a way that has ended -/
def RepX (F E : Int → Int → Int) (s : tS) : Prop := (∀ i, 0 ≤ i → i < s.2.2.2 1 * 3 → i < 297 → E 39 i = s.2.1 i) ∧ (∀ i, 0 ≤ i → i < s.2.2.2 2 → i < 99 → E 40 i = s.2.2.1 i) ∧ F 30 12 = s.2.2.2 1 ∧ F 30 13 = s.2.2.2 2 ∧ F 30 14 = s.2.2.2 3
section C
variable {l : Launch} {G : pG} {bg : Nat × Nat} {n : Nat} {K : Int → Nat × Nat} {F E : Int → Int → Int} {Q : Option pV → pM → Prop} {L : Option tLaw}
theorem c_lawInForce (hK : KS K) (hF : FS F) (h : LwC K F E L) (hQ : ∀ t, ((L = none ∧ t = -1) ∨ ∃ L', L = some L' ∧ LawC K F E t L') → Q (some (2, t)) (n, K, F, E)) : PC l G 0 mX1_lawInForce bg [(2, 1)] (n, K, F, E) Q := by
  refine vX1_lawInForce_0 1 ?_
  simp only [hF.f1_5, hK.k1, hK.k7]
  rcases h.1 with ⟨e, e7⟩ | ⟨L', e, e7, hl⟩
  · exact ⟨trivial, fun _ => hQ (-1) (Or.inl ⟨e, rfl⟩), fun z => absurd (by omega) z⟩
  · exact ⟨trivial, fun z => absurd z (by omega), fun _ => ⟨fun z => absurd z (by omega), fun _ => ⟨by decide, trivial, by omega, hQ _ (Or.inr ⟨L', e, hl⟩)⟩⟩⟩
theorem wBar_eq {w B : Int → Int} (h2 : w 2 = B 2) (h3 : w 3 = B 3) (h4 : w 4 = B 4) (h7 : w 7 = B 7) (h8 : w 8 = B 8) : ∀ k, 0 ≤ k → k < 9 → wBar w k = wC B (-1) (-1) (-1) (-1) k := by
  intro k k0 k1
  rcases (show k = 0 ∨ k = 1 ∨ k = 2 ∨ k = 3 ∨ k = 4 ∨ k = 5 ∨ k = 6 ∨ k = 7 ∨ k = 8 by omega) with e | e | e | e | e | e | e | e | e <;> subst e <;> simp only [wBar, wC, rUpA, Int.reduceEq, reduceIte]
  · exact h2
  · exact h3
  · exact h4
  · exact h7
  · exact h8
theorem c_comeTo {x y u mood bud r a b : Int} {c : Int → Int} (hK : KS K) (hF : FS F) (hxy : (x = 2 ∧ y = 3) ∨ (x = 18 ∧ y = 19)) (hu : u = -1 ∨ (u = 10 ∧ y = 3)) (hc : cz (E y) = c) (hC : CInv c) (hl : LwC K F E L) (hm : E 4 2 = mood) (m0 : 0 ≤ mood ∧ mood ≤ 9) (hbu : E 4 0 = bud) (hlg : (0 ≤ F 10 2 ∧ F 10 2 < 16) ∧ 0 ≤ F 10 3 ∧ F 10 3 ≤ 16)
    (hQ : ∀ F' E', FrD y F E F' E' → cz (E' y) = (sCome c L mood bud r a b).2.1 → LgU u (sCome c L mood bud r a b).1 c F E F' E' → ((0 ≤ (sCome c L mood bud r a b).1 ∨ (sCome c L mood bud r a b).1 = -5) → RepX F' E' (sCome c L mood bud r a b).2.2) → Q (some (0, (sCome c L mood bud r a b).1)) (n, K, F', E')) :
    PC l G 31 mX11_comeTo bg [(2, 0), (2, x), (2, u), (0, r), (0, a), (0, b)] (n, K, F, E) Q := by
  have hx0 : F x 0 = y := by rcases hxy with ⟨e1, e2⟩ | ⟨e1, e2⟩ <;> subst e1 <;> subst e2; exact hF.f2_0; exact hF.f18_0
  have hkx : (K x).1 = 0 := by rcases hxy with ⟨e1, e2⟩ | ⟨e1, e2⟩ <;> subst e1; rw [hK.k2]; rw [hK.k18]
  have hky : K y = (20, 117) := by rcases hxy with ⟨e1, e2⟩ | ⟨e1, e2⟩ <;> subst e2; exact hK.k3; exact hK.k19
  have cr := com_bd (L := L) (mood := mood) (bud := bud) (r := r) (a := a) (b := b) hC ogI
  unfold sCome at hQ
  refine vX11_comeTo_0 0 x u r a b ?_
  simp only [hF.f0_0, hF.f0_10, hK.k0, hK.k1]
  refine ⟨fun z => ⟨trivial, trivial, ?_⟩, fun z => ?_⟩
  · simp only [if_pos z] at hQ
    obtain ⟨zr, za, zb⟩ := z
    refine c_lawInForce hK hF hl fun t ht => ?_
    refine vX11_comeTo_24 0 x u r a b t 30 ?_
    simp only [hF.f0_0, hF.f0_10, hF.f1_1, hF.f30_1, hK.k0, hK.k1, hK.k4, hK.k30, hK.k33, hm, hbu]
    refine ⟨trivial, trivial, trivial, by decide, by decide, trivial, fun F1 f1 F2 f2 F3 f3 => ⟨by decide, trivial, by decide, fun E4 e4 => ⟨trivial, ?_⟩⟩⟩
    have w0 : FrW F E F3 E4 := by
      rw [f3, f2, f1, e4]
      exact ((((FrW.refl hF).up (by decide +kernel)).up (by decide +kernel)).up (by decide +kernel)).upE (by decide)
    have F33 : F3 30 3 = t := by rw [f3, f2, f1, pUp_k (by decide), pUp_k (by decide), pUp_s]
    have F35 : F3 30 5 = bud := by rw [f3, f2, pUp_k (by decide), pUp_s]
    have F34 : F3 30 4 = -1 := by rw [f3, pUp_s]
    have y4 : E4 y = E y := by rw [e4, pUp_an (by omega)]
    have lk : (L = none ∧ F3 30 3 = -1) ∨ ∃ L', L = some L' ∧ LawC K F3 E4 (F3 30 3) L' := by
      rw [F33]
      exact ht.imp id (fun ⟨L', e, q⟩ => ⟨L', e, q.keep (fun a ha => funext fun k => w0.2.2 a k (by omega)) (fun a ha => by rw [e4, pUp_an (by omega)])⟩)
    refine c_setTuple (c := c) (L := L) (bud := bud) (mood := mood) (og := fun i => i) (fx := false) hK w0.2.1 hkx ((w0.2.2 x 0 (by omega)).trans hx0) hky (by omega) (by omega) (by rw [y4]; exact hc) hC ⟨lk, hl.2⟩ F35 ⟨ogI, Or.inl ⟨rfl, F34⟩⟩ (by rw [e4, pUp_s]) m0 zr za zb fun F5 E5 w5 cx5 rp5 => ?_
    have w05 := w0.trans w5
    have rd1 := cx5.rd (k := 1) (by decide) (by decide)
    have hF5 := w5.2.1
    refine vX11_comeTo_59 0 x u r a b ?_
    rw [cx5.2.1.2.2.1, hky, rd1]
    simp only [hF5.f0_10, hK.k0, hK.k30]
    have ofW : ∀ F' E', FrW F E F' E' → FrD y F E F' E' := fun F' E' w => ⟨fun p h1 h2 h3 h4 h5 h6 => w.1 p h4 h5 (by omega) (by omega) (by omega) (by omega) (by omega), w.2.1, fun p k hp _ => w.2.2 p k hp⟩
    have noL : ∀ F' E' v, FrW F E F' E' → v < 0 → LgU u v c F E F' E' := fun F' E' v w hv => Or.inr ⟨Or.inr hv, w.2.2 10 2 (by decide), w.2.2 10 3 (by decide), w.1 11 (by decide) (by decide) (by decide) (by decide) (by decide) (by decide) (by decide), w.1 12 (by decide) (by decide) (by decide) (by decide) (by decide) (by decide) (by decide)⟩
    have yW : ∀ F' E', FrW F E F' E' → cz (E' y) = c := fun F' E' w => by rw [w.1 y (by omega) (by omega) (by omega) (by omega) (by omega) (by omega) (by omega)]; exact hc
    refine ⟨hkx, trivial, by decide, fun q => ?_, fun q => ⟨trivial, trivial, ?_⟩⟩
    · simp only [if_neg (show ¬ (c 1 < 999 ∧ barS L (wC (bB c r a b mood) (-1) (-1) (-1) (-1)) = 0) by omega)] at hQ
      exact hQ F5 E5 (ofW _ _ w05) (yW _ _ w05) (noL _ _ _ w05 (by decide)) (fun z => absurd z (by decide))
    · have cx5' := cx5
      obtain ⟨_, _, _, ⟨hl5, hlo⟩, _, _, ⟨hB5, q2, q3, q4, q7, q8⟩⟩ := cx5'
      have we := wBar_eq q2 q3 q4 q7 q8
      refine c_isBarred hK hF5 hl5 (fun k k0 k1 => ?_) fun E6 r6 r33 => ?_
      · rw [we k k0 k1]
        exact wC_ok hB5 (by decide) (by decide) (by decide) (by decide) k k0 k1
      · rw [barS_loc hlo we]
        have w6 : FrW F5 E5 F5 E6 := ⟨fun p h1 h2 _ _ _ _ _ => r6 p h1 h2, hF5, fun _ _ _ => rfl⟩
        have w06 := w05.trans w6
        refine vX11_comeTo_76 0 x u r a b _ ⟨fun z => ?_, fun z => ?_⟩
        · simp only [if_pos (show c 1 < 999 ∧ barS L (wC (bB c r a b mood) (-1) (-1) (-1) (-1)) = 0 from ⟨by omega, z⟩)] at hQ
          have f6 : FrC F5 E5 F5 E6 := by
            refine ⟨fun p h1 h2 _ _ _ _ _ => r6 p h1 h2, ?_, hF5, fun _ _ _ => rfl⟩
            rw [r33]
            simp only [wBar, rUpA, Int.reduceEq, reduceIte]
            exact ⟨trivial, trivial, trivial, trivial, trivial⟩
          have cx6 := cx5.keep f6
          have rp6 : RepC F5 E6 (c 0) (stI c r) (fdI r a b) (sI c) 0 := rp5.rows (r6 36 (by decide) (by decide)) (r6 37 (by decide) (by decide)) (r6 38 (by decide) (by decide)) (r6 39 (by decide) (by decide)) (r6 40 (by decide) (by decide))
          simp only [hF5.f0_10, hK.k0, hK.k30]
          refine ⟨trivial, trivial, c_way (by decide) cx6 rp6 za zb fun F7 E7 f7 rp7 => ?_⟩
          have w07 := w06.trans f7.w
          have cx7 := cx6.keep f7
          have hF7 := f7.2.2.1
          obtain ⟨u1, u2, u3, u4, u5, u6, u7, u8, u9, u10, u11⟩ := rp7
          have y7 : E7 y = E y := w07.1 y (by omega) (by omega) (by omega) (by omega) (by omega) (by omega) (by omega)
          have x7 : F7 x 0 = y := cx7.2.1.2.2.1
          have b0 := hC.1
          have b1 := hC.2.1
          have b2 := hC.2.2.1
          have h4 := hC.2.2.2.1 r zr.1 zr.2
          have rdE : ∀ k, 0 ≤ k → k < 117 → E y k = c k := fun k k0 k1 => by rw [← hc, cz_in k0 k1]
          have lg7 : (F7 10 2 = F 10 2 ∧ F7 10 3 = F 10 3) ∧ E7 11 = E 11 ∧ E7 12 = E 12 := ⟨⟨w07.2.2 10 2 (by decide), w07.2.2 10 3 (by decide)⟩, w07.1 11 (by decide) (by decide) (by decide) (by decide) (by decide) (by decide) (by decide), w07.1 12 (by decide) (by decide) (by decide) (by decide) (by decide) (by decide) (by decide)⟩
          generalize eσ : comS c L mood bud (fun i => i) false r a b = σ at *
          refine vX11_comeTo_91 0 x u r a b ?_
          simp only [hF7.f0_10, hF7.f30_9, hK.k0, hK.k30, u10]
          refine ⟨trivial, trivial, fun g => ?_, fun g => ?_⟩
          · simp only [if_pos g] at hQ
            -- behind the log
            have fin : ∀ F8 E8, FS F8 → (∀ p k, p ≠ 30 → ¬ (p = 10 ∧ (k = 2 ∨ k = 3)) → F8 p k = F p k) → (∀ k, F8 30 k = F7 30 k) → (∀ p, p ≠ y → p ≠ 11 → p ≠ 12 → p ≠ 32 → p ≠ 33 → (p < 36 ∨ 40 < p) → E8 p = E p) → E8 y = E y → E8 38 = E7 38 → E8 39 = E7 39 → E8 40 = E7 40 → LgU u (σ.2.2.2 1) c F E F8 E8 → PC l G 0 mX0_setTickets (0, 0) [(2, x), (2, 38)] (n, K, F8, E8) (fun r_1 μ => PW l G 31 mX11_comeTo bg 125 [(0, (2, 0)), (1, (2, x)), (3, (0, r)), (4, (0, a)), (5, (0, b))] (r_1.toList ++ []) μ Q) := by
              intro F8 E8 hF8 k8 k30 n8 y8 r38 r39 r40 lg
              have x8 : F8 x 0 = y := by rw [k8 x 0 (by omega) (by omega)]; exact hx0
              have tke : cTick (cz (E y)) (E8 38) = cTick c σ.1 := by
                rw [hc]
                exact cTick_congr (fun o o0 o1 => by rw [r38]; exact u3 o o0 o1)
              have c0E := rdE 0 (by decide) (by decide)
              have tick : ∀ k, (k < 12 ∨ 36 ≤ k) → cTick (E y) (E8 38) k = E y k := fun k hk => by unfold cTick; rw [if_neg (by omega)]
              refine c_setTickets (c := y) hkx x8 hky (by omega) hK.k38 (by omega) (by rw [y8, c0E]; omega) (by rw [y8, c0E]; omega) ?_
              rw [y8]
              refine vX11_comeTo_125 0 x r a b ?_
              simp only [hF8.f0_10, hK.k0, hK.k30, k30 12, u7]
              refine ⟨trivial, trivial, hkx, c_addTuple (c := y) hkx x8 hky (by omega) zr.1 zr.2 ?_ ?_ ?_ ?_ ?_ ?_ ?_ ?_ ?_⟩
              · rw [pRow_at, tick 1 (by decide), rdE 1 (by decide) (by decide)]; omega
              · rw [pRow_at, tick 1 (by decide), rdE 1 (by decide) (by decide)]; omega
              · rw [pRow_at, tick _ (by omega), rdE _ (by omega) (by omega)]; omega
              · rw [pRow_at, tick _ (by omega), rdE _ (by omega) (by omega)]; omega
              · rw [pRow_at, tick _ (by omega), rdE _ (by omega) (by omega)]; omega
              · rw [pRow_at, tick _ (by omega), tick _ (by omega), rdE _ (by omega) (by omega), rdE _ (by omega) (by omega)]; omega
              · rw [pRow_at, tick 2 (by decide), rdE 2 (by decide) (by decide)]; have := cr.2.2.1; omega
              · rw [pRow_at, tick 2 (by decide), rdE 2 (by decide) (by decide)]; have := cr.2.2.1; omega
              · rw [pRow_row, pRow_at]
                refine vX11_comeTo_141 0 ?_
                simp only [hF8.f0_10, hK.k0, hK.k30, k30 12, u7]
                refine ⟨trivial, trivial, hQ F8 _ ⟨fun p h1 h2 h3 h4' h5 h6 => ?_, hF8, k8⟩ ?_ ?_ (fun _ => ⟨?_, ?_, ?_, ?_, ?_⟩)⟩
                · rw [pRow_ne h1]; exact n8 p h1 h2 h3 h4' h5 h6
                · rw [pRow_at, cz_add zr.1 zr.2 (by rw [tick _ (by omega), rdE _ (by omega) (by omega)]; omega) (by rw [tick _ (by omega), tick _ (by omega), rdE _ (by omega) (by omega), rdE _ (by omega) (by omega)]; omega) (by rw [tick _ (by omega), rdE _ (by omega) (by omega)]; omega) (by rw [tick _ (by omega), rdE _ (by omega) (by omega)]; omega), cz_tick (by rw [c0E]; omega) (by rw [c0E]; omega), tke]
                · rcases lg with ⟨q1, q2, q3, q4⟩ | ⟨q1, q2, q3, q4, q5⟩
                  · refine Or.inl ⟨q1, q2, q3, ?_⟩
                    rw [pRow_ne (by omega), pRow_ne (by omega)]; exact q4
                  · refine Or.inr ⟨q1, q2, q3, ?_, ?_⟩
                    · rw [pRow_ne (by omega)]; exact q4
                    · rw [pRow_ne (by omega)]; exact q5
                · rw [pRow_ne (by omega), r39]; exact u4
                · rw [pRow_ne (by omega), r40]; exact u5
                · rw [k30 12]; exact u7
                · rw [k30 13]; exact u8
                · rw [k30 14]; exact u9
            have b3 := cr.2.2.1
            refine ⟨fun hu' => ⟨hkx, fin F7 E7 hF7 (fun p k h1 _ => w07.2.2 p k h1) (fun _ => rfl) (fun p h1 h2 h3 h4' h5 h6 => w07.1 p h4' h5 (by omega) (by omega) (by omega) (by omega) (by omega)) y7 rfl rfl rfl (Or.inr ⟨Or.inl hu', lg7.1.1, lg7.1.2, lg7.2.1, lg7.2.2⟩)⟩, fun hu' => ?_⟩
            rcases hu with hu | ⟨hu, hy3⟩
            · exact absurd hu hu'
            · subst hu
              refine ⟨by rw [hK.k10], c_push (c := y) hK hF7 hkx x7 hky (by omega) (by omega) (by omega) (by rw [lg7.1.1]; exact hlg.1.1) (by rw [lg7.1.1]; exact hlg.1.2) (by rw [lg7.1.2]; exact hlg.2.1) (by rw [lg7.1.2]; exact hlg.2.2) fun ff ss kd cl g1 g2 g3 g4 lg => ?_⟩
              rw [lg7.1.1, lg7.1.2, lg7.2.1, lg7.2.2, y7, hc] at lg
              have hF8 : FS (pUp (pUp F7 10 2 ff) 10 3 ss) := (hF7.up (by decide +kernel)).up (by decide +kernel)
              refine vX11_comeTo_114 0 x r a b ?_
              simp only [hF8.f0_10, hF8.f30_9, hK.k0, hK.k30]
              refine ⟨trivial, trivial, hkx, fin _ _ hF8 (fun p k h1 h2 => ?_) (fun k => ?_) (fun p h1 h2 h3 h4' h5 h6 => ?_) ?_ ?_ ?_ ?_ (Or.inl ⟨rfl, b3.1, ?_, ?_⟩)⟩
              · unfold pUp
                rw [if_neg (by omega), if_neg (by omega)]
                exact w07.2.2 p k h1
              · rw [pUp_a (by decide), pUp_a (by decide)]
              · rw [pRow_ne h3, pRow_ne h2]
                exact w07.1 p h4' h5 (by omega) (by omega) (by omega) (by omega) (by omega)
              · rw [pRow_ne (by omega), pRow_ne (by omega)]; exact y7
              · rw [pRow_ne (by decide), pRow_ne (by decide)]
              · rw [pRow_ne (by decide), pRow_ne (by decide)]
              · rw [pRow_ne (by decide), pRow_ne (by decide)]
              · simp only [pUp1, rUpA, Int.reduceEq, reduceIte]; omega
              · simp only [pUp1, pRow1, rUpA, Int.reduceEq, reduceIte]; exact lg
          · simp only [if_neg g] at hQ
            exact hQ F7 E7 (ofW _ _ w07) (yW _ _ w07) (noL _ _ _ w07 (by decide)) (fun _ => ⟨u4, u5, u7, u8, u9⟩)
        · simp only [if_neg (show ¬ (c 1 < 999 ∧ barS L (wC (bB c r a b mood) (-1) (-1) (-1) (-1)) = 0) from fun w => z w.2)] at hQ
          exact hQ F5 E6 (ofW _ _ w06) (yW _ _ w06) (noL _ _ _ w06 (by decide)) (fun z => absurd z (by decide))
  · simp only [if_neg z] at hQ
    exact hQ F E ⟨fun _ _ _ _ _ _ _ => rfl, hF, fun _ _ _ _ => rfl⟩ hc (Or.inr ⟨Or.inr (by decide), rfl, rfl, rfl, rfl⟩) (fun z => absurd z (by decide))
end C
