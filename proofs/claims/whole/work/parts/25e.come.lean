/-! THE PAIR come -/
theorem inv_law {G : pG} {n : Nat} {K : Int → Nat × Nat} {F E : Int → Int → Int} (h : Inv lawLR G n K F E) : ∃ L, LwC K F E L ∧ LawF (E 68) L := by
  obtain ⟨g1, l0, l6, la, _⟩ := h.2.1.2.2.2.1
  obtain ⟨g2, f0, f1⟩ := h.2.1.2.2.2.2
  by_cases e : F 1 7 = -1
  · exact ⟨none, ⟨Or.inl ⟨rfl, e⟩, fun L' q => absurd q (by simp)⟩, Or.inl ⟨rfl, g2.trans e⟩⟩
  · obtain ⟨L, hl, hx⟩ := lawAt_split (la (F 1 7) (by omega) f1)
    have ok := hl.2.2.2.2.2.2
    have cl : ∀ c, c < L.1 → ClOk (L.2 c) := fun c hc => (ok.2.2 c hc).1
    refine ⟨some L, ⟨Or.inr ⟨L, rfl, ⟨by omega, f1, l6⟩, hl⟩, fun L' q => ?_⟩, Or.inr ⟨L, rfl, by omega, ?_, ok.2.1, cl⟩⟩
    · injection q with q
      subst q
      exact cl
    · rw [g2]; exact hx
theorem inv_terms {LR : tLR} {G : pG} {n : Nat} {K : Int → Nat × Nat} {F E : Int → Int → Int} (h : Inv LR G n K F E) : (E 68 3 = E 4 0 ∧ E 68 4 = E 4 1 ∧ E 68 5 = E 4 2) ∧ TInv (E 4) := h.2.1.2.1
/-- what is told of a way that has ended -/
def LtN (v : Int) (σ : tS) (r r' : Int) (rs rs' : Int → Int) (sc sc' : Int) (sr sr' : Int → Int) (dp dp' : Int) : Prop :=
  ((0 ≤ v ∧ r' = σ.2.2.2 1 ∧ ∀ i, 0 ≤ i → i < σ.2.2.2 1 * 3 → i < 297 → rs' i = σ.2.1 i) ∨ (v < 0 ∧ r' = r ∧ rs' = rs)) ∧
  (((0 ≤ v ∨ v = -5) ∧ sc' = σ.2.2.2 2 ∧ dp' = σ.2.2.2 3 ∧ ∀ i, 0 ≤ i → i < σ.2.2.2 2 → i < 99 → sr' i = σ.2.2.1 i) ∨ (¬ (0 ≤ v ∨ v = -5) ∧ sc' = sc ∧ dp' = dp ∧ sr' = sr))
theorem ltr_new {v : Int} {σ : tS} {r r' q q' sc sc' tc tc' dp dp' ep ep' : Int} {rs rs' qs qs' sr sr' tr tr' : Int → Int} (h : LtR r rs sc sr dp q qs tc tr ep) (h1 : LtN v σ r r' rs rs' sc sc' sr sr' dp dp') (h2 : LtN v σ q q' qs qs' tc tc' tr tr' ep ep') (b1 : 0 ≤ v → 0 ≤ σ.2.2.2 1 ∧ σ.2.2.2 1 ≤ 15581) (b2 : (0 ≤ v ∨ v = -5) → 0 ≤ σ.2.2.2 2 ∧ σ.2.2.2 2 ≤ 15581) : LtR r' rs' sc' sr' dp' q' qs' tc' tr' ep' := by
  obtain ⟨⟨a1, a2, a3⟩, ⟨a4, a5, a6⟩, a7, a8, a9⟩ := h
  have p1 : (q' = r' ∧ 0 ≤ r' ∧ r' < 2147483648) ∧ ∀ i, 0 ≤ i → i < 3 * r' → i < 297 → qs' i = rs' i := by
    rcases h1.1 with ⟨z, e1, e2⟩ | ⟨z, e1, e2⟩ <;> rcases h2.1 with ⟨y, e3, e4⟩ | ⟨y, e3, e4⟩
    · have := b1 z
      exact ⟨⟨by omega, by omega, by omega⟩, fun i i0 i1 i2 => by rw [e2 i i0 (by omega) i2, e4 i i0 (by omega) i2]⟩
    · omega
    · omega
    · subst e1 e2 e3 e4
      exact ⟨⟨a1, a2, a3⟩, a8⟩
  have p2 : (tc' = sc' ∧ 0 ≤ sc' ∧ sc' < 2147483648) ∧ ep' = dp' ∧ ∀ i, 0 ≤ i → i < sc' → i < 99 → tr' i = sr' i := by
    rcases h1.2 with ⟨z, e1, e2, e3⟩ | ⟨z, e1, e2, e3⟩ <;> rcases h2.2 with ⟨y, e4, e5, e6⟩ | ⟨y, e4, e5, e6⟩
    · have := b2 z
      exact ⟨⟨by omega, by omega, by omega⟩, by omega, fun i i0 i1 i2 => by rw [e3 i i0 (by omega) i2, e6 i i0 (by omega) i2]⟩
    · exact absurd z y
    · exact absurd y z
    · subst e1 e2 e3 e4 e5 e6
      exact ⟨⟨a4, a5, a6⟩, a7, a9⟩
  exact ⟨p1.1, p2.1, p2.2.1, p1.2, p2.2.2⟩
theorem LgU.congr {u v : Int} {c : Int → Int} {F E F' E' F'' E'' : Int → Int → Int} (h : LgU u v c F E F' E') (e1 : F'' 10 2 = F' 10 2) (e2 : F'' 10 3 = F' 10 3) (e3 : E'' 11 = E' 11) (e4 : E'' 12 = E' 12) : LgU u v c F E F'' E'' := by
  unfold LgU
  rw [e1, e2, e3, e4]
  exact h
theorem LgV.congr {v : Int} {c : Int → Int} {F E F' E' F'' E'' : Int → Int → Int} (h : LgV v c F E F' E') (e1 : F'' 66 8 = F' 66 8) (e3 : E'' 71 = E' 71) (e4 : E'' 72 = E' 72) : LgV v c F E F'' E'' := by
  unfold LgV
  rw [e1, e3, e4]
  exact h
/-- what come changes in the class -/
def FrY (F E F' E' : Int → Int → Int) : Prop := (∀ r, r ≠ 3 → r ≠ 11 → r ≠ 12 → r ≠ 32 → r ≠ 33 → (r < 36 ∨ 40 < r) → r ≠ 42 → r ≠ 43 → r ≠ 49 → E' r = E r) ∧ FS F' ∧ ∀ a k, a ≠ 30 → a ≠ 10 → a ≠ 41 → ¬ (a = 0 ∧ k = 16) → F' a k = F a k
theorem FrY.ek {F E F' E' : Int → Int → Int} (h : FrY F E F' E') : EK E E' := fun a ha => by
  have n : ∀ k, k ∈ actE → a ≠ k := fun k hk e => ha (e ▸ hk)
  have n1 := n 36 (by decide)
  have n2 := n 37 (by decide)
  have n3 := n 38 (by decide)
  have n4 := n 39 (by decide)
  have n5 := n 40 (by decide)
  exact h.1 a (n 3 (by decide)) (n 11 (by decide)) (n 12 (by decide)) (n 32 (by decide)) (n 33 (by decide)) (by omega) (n 42 (by decide)) (n 43 (by decide)) (n 49 (by decide))
theorem FrY.fk {F E F' E' : Int → Int → Int} (h : FrY F E F' E') : FK F F' := by
  refine ⟨h.2.1, fun t ht => ?_, fun a ha => funext fun k => h.2.2 a k (by omega) (by omega) (by omega) (by omega)⟩
  have q : actF.all (fun t => !(decide (t.1 = 30)) && (!(decide (t.1 = 10)) && (!(decide (t.1 = 41)) && !(decide (t.1 = 0) && decide (t.2 = 16))))) = true := by decide
  have := List.all_eq_true.mp q t ht
  simp at this
  exact h.2.2 t.1 t.2 this.1 this.2.1 this.2.2.1 (by omega)
/-- what come changes in the reference -/
def FrZ (F E F' E' : Int → Int → Int) : Prop := (∀ r, r ≠ 67 → r ≠ 68 → r ≠ 71 → r ≠ 72 → r ≠ 84 → (r < 86 ∨ 95 < r) → r ≠ 97 → r ≠ 98 → E' r = E r) ∧ FS F' ∧ ∀ a k, ¬ (a = 66 ∧ (k = 0 ∨ k = 1 ∨ k = 8 ∨ k = 34 ∨ k = 38 ∨ k = 39 ∨ k = 40 ∨ k = 47 ∨ k = 49 ∨ k = 50 ∨ k = 51 ∨ k = 52 ∨ k = 53 ∨ k = 56 ∨ k = 59 ∨ k = 61 ∨ k = 62)) → F' a k = F a k
theorem FrZ.ek {F E F' E' : Int → Int → Int} (h : FrZ F E F' E') : EK E E' := fun a ha => by
  have n : ∀ k, k ∈ actE → a ≠ k := fun k hk e => ha (e ▸ hk)
  have n1 := n 86 (by decide)
  have n2 := n 87 (by decide)
  have n3 := n 88 (by decide)
  have n4 := n 89 (by decide)
  have n5 := n 90 (by decide)
  have n6 := n 91 (by decide)
  have n7 := n 92 (by decide)
  have n8 := n 93 (by decide)
  have n9 := n 94 (by decide)
  have n10 := n 95 (by decide)
  exact h.1 a (n 67 (by decide)) (n 68 (by decide)) (n 71 (by decide)) (n 72 (by decide)) (n 84 (by decide)) (by omega) (n 97 (by decide)) (n 98 (by decide))
theorem FrZ.fk {F E F' E' : Int → Int → Int} (h : FrZ F E F' E') : FK F F' := by
  refine ⟨h.2.1, fun t ht => ?_, fun a ha => funext fun k => h.2.2 a k (by omega)⟩
  have q : actF.all (fun t => !(decide (t.1 = 66)) || (decide (10 < t.2) && decide (t.2 < 34)) || decide (69 < t.2)) = true := by decide
  have := List.all_eq_true.mp q t ht
  simp at this
  exact h.2.2 t.1 t.2 (by omega)
def StC (v : Int) (E F' E' : Int → Int → Int) : Prop := F' 0 16 = (if v < 0 then v else 0) ∧ E' 49 = (if v < 0 then rUp (E 49) (rfx v) (w32 (E 49 (rfx v) + 1)) else E 49)
def StR (v : Int) (E F' E' : Int → Int → Int) : Prop := F' 66 1 = (if v < 0 then v else 0) ∧ E' 67 = (if v < 0 then rUp (E 67) (-v) (w32 (E 67 (-v) + 1)) else E 67)
section C
variable {l : Launch} {G : pG} {bg : Nat × Nat} {n : Nat} {K : Int → Nat × Nat} {F E : Int → Int → Int} {Q : Option pV → pM → Prop} {L : Option tLaw} {mood bud r a b : Int} {c : Int → Int}
theorem c_come (hK : KS K) (hF : FS F) (hc : cz (E 3) = c) (hC : CInv c) (hl : LwC K F E L) (hm : E 4 2 = mood) (m0 : 0 ≤ mood ∧ mood ≤ 9) (hbu : E 4 0 = bud) (hlg : (0 ≤ F 10 2 ∧ F 10 2 < 16) ∧ 0 ≤ F 10 3 ∧ F 10 3 ≤ 16)
    (hQ : ∀ F' E', FrY F E F' E' → cz (E' 3) = (sCome c L mood bud r a b).2.1 → LgU 10 (sCome c L mood bud r a b).1 c F E F' E' → LtN (sCome c L mood bud r a b).1 (sCome c L mood bud r a b).2.2 (F 41 1) (F' 41 1) (E 42) (E' 42) (F 41 3) (F' 41 3) (E 43) (E' 43) (F 41 4) (F' 41 4) → StC (sCome c L mood bud r a b).1 E F' E' → Q (some (0, (sCome c L mood bud r a b).1)) (n, K, F', E')) :
    PC l G 32 mX11_come bg [(2, 0), (0, r), (0, a), (0, b)] (n, K, F, E) Q := by
  have hv := sCome_v (L := L) (mood := mood) (bud := bud) (r := r) (a := a) (b := b) hC
  refine vX11_come_0 0 r a b ?_
  simp only [hF.f0_0, hF.f0_3, hF.f1_0, hK.k0, hK.k1]
  refine ⟨trivial, trivial, c_comeTo hK hF (Or.inl ⟨rfl, rfl⟩) (Or.inr ⟨rfl, rfl⟩) hc hC hl hm m0 hbu hlg fun F1 E1 w1 cy lg rx => ?_⟩
  generalize sCome c L mood bud r a b = s at *
  have hF1 := w1.2.1
  have k41 : ∀ k, F1 41 k = F 41 k := fun k => w1.2.2 41 k (by decide) (by omega)
  have e42 : E1 42 = E 42 := w1.1 42 (by decide) (by decide) (by decide) (by decide) (by decide) (by decide)
  have e43 : E1 43 = E 43 := w1.1 43 (by decide) (by decide) (by decide) (by decide) (by decide) (by decide)
  have e49 : E1 49 = E 49 := w1.1 49 (by decide) (by decide) (by decide) (by decide) (by decide) (by decide)
  -- behind the rows
  have fin : ∀ F2 E2, FS F2 → (∀ p k, ¬ (p = 41 ∧ (k = 1 ∨ k = 3 ∨ k = 4)) → F2 p k = F1 p k) → (∀ p, p ≠ 42 → p ≠ 43 → E2 p = E1 p) → LtN s.1 s.2.2 (F 41 1) (F2 41 1) (E 42) (E2 42) (F 41 3) (F2 41 3) (E 43) (E2 43) (F 41 4) (F2 41 4) → PC l G 1 mX11_settle (0, 0) [(2, 0), (0, s.1)] (n, K, F2, E2) (fun r μ => PW l G 32 mX11_come bg 65 [] (r.toList ++ []) μ Q) := by
    intro F2 E2 hF2 k2 n2 lt
    refine c_settle hK hF2 hv (fun z => vX11_come_65 s.1 (hQ _ _ ⟨fun p h1 h2 h3 h4 h5 h6 h7 h8 h9 => ?_, hF2.up (by decide +kernel), fun p k h1 h2 h3 h4 => ?_⟩ ?_ (lg.congr ?_ ?_ ?_ ?_) ?_ ⟨?_, ?_⟩)) (fun z => vX11_come_65 s.1 (hQ _ _ ⟨fun p h1 h2 h3 h4 h5 h6 h7 h8 h9 => ?_, hF2.up (by decide +kernel), fun p k h1 h2 h3 h4 => ?_⟩ ?_ (lg.congr ?_ ?_ ?_ ?_) ?_ ⟨?_, ?_⟩))
    · rw [n2 p h7 h8]; exact w1.1 p h1 h2 h3 h4 h5 h6
    · unfold pUp; rw [if_neg h4, k2 p k (by omega)]; exact w1.2.2 p k h1 (by omega)
    · rw [n2 3 (by decide) (by decide)]; exact cy
    · rw [pUp_an (by decide), k2 10 2 (by omega)]
    · rw [pUp_an (by decide), k2 10 3 (by omega)]
    · exact n2 11 (by decide) (by decide)
    · exact n2 12 (by decide) (by decide)
    · rw [pUp_an (by decide)]; exact lt
    · rw [pUp_s, if_neg (by omega)]
    · rw [if_neg (by omega), n2 49 (by decide) (by decide)]; exact e49
    · rw [pUp_an h9, n2 p h7 h8]; exact w1.1 p h1 h2 h3 h4 h5 h6
    · unfold pUp; rw [if_neg h4, k2 p k (by omega)]; exact w1.2.2 p k h1 (by omega)
    · rw [pUp_an (by decide), n2 3 (by decide) (by decide)]; exact cy
    · rw [pUp_an (by decide), k2 10 2 (by omega)]
    · rw [pUp_an (by decide), k2 10 3 (by omega)]
    · rw [pUp_an (by decide)]; exact n2 11 (by decide) (by decide)
    · rw [pUp_an (by decide)]; exact n2 12 (by decide) (by decide)
    · rw [pUp_an (by decide), pUp_an (by decide), pUp_an (by decide)]; exact lt
    · rw [pUp_s, if_pos z]
    · rw [if_pos z, pUp1, if_pos rfl, n2 49 (by decide) (by decide), e49]
  refine vX11_come_18 0 s.1 ?_
  simp only [hF1.f0_10, hF1.f0_11, hF1.f41_0, hF1.f41_2, hF1.f30_10, hF1.f30_11, hK.k0, hK.k30, hK.k41, hK.k39, hK.k40, hK.k42, hK.k43]
  refine ⟨fun z => ⟨fun y => absurd z (by omega), fun y => ⟨fun x => ⟨trivial, ?_⟩, fun x => ⟨trivial, trivial, trivial, fun F4 f4 F5 f5 => ⟨trivial, by decide, trivial, by decide, by decide, fun E6 e6 => ?_⟩⟩⟩⟩, fun z => ⟨trivial, trivial, trivial, fun F7 f7 => ⟨trivial, by decide, trivial, by decide, by decide, fun E8 e8 => ⟨fun y F9 f9 F10 f10 => ⟨trivial, by decide, trivial, by decide, by decide, fun E11 e11 => ?_⟩, fun y => absurd (by omega) y⟩⟩⟩⟩
  · exact fin F1 E1 hF1 (fun _ _ _ => rfl) (fun _ _ _ => rfl) ⟨Or.inr ⟨z, k41 1, e42⟩, Or.inr ⟨by omega, k41 3, k41 4, e43⟩⟩
  · obtain ⟨u1, u2, u3, u4, u5⟩ := rx (Or.inr x)
    refine fin F5 E6 ?_ (fun p k q => ?_) (fun p h1 h2 => ?_) ⟨Or.inr ⟨z, ?_, ?_⟩, Or.inl ⟨Or.inr x, ?_, ?_, fun i i0 i1 i2 => ?_⟩⟩
    · rw [f5, f4]; exact (hF1.up (by decide +kernel)).up (by decide +kernel)
    · rw [f5, f4]; unfold pUp; rw [if_neg (by omega), if_neg (by omega)]
    · rw [e6, pRow_ne h2]
    · rw [f5, f4, pUp_k (by decide), pUp_k (by decide)]; exact k41 1
    · rw [e6, pRow_ne (by decide)]; exact e42
    · rw [f5, f4, pUp_k (by decide), pUp_s]; exact u4
    · rw [f5, pUp_s]; exact u5
    · rw [e6, pRow_at]
      unfold pCpy
      rw [if_pos ⟨i0, by show i < 0 + 99; omega⟩, show (0 : Int) + (i - 0) = i by omega]
      exact u2 i i0 i1 i2
  · obtain ⟨u1, u2, u3, u4, u5⟩ := rx (Or.inl (by omega))
    refine fin F10 E11 ?_ (fun p k q => ?_) (fun p h1 h2 => ?_) ⟨Or.inl ⟨by omega, ?_, fun i i0 i1 i2 => ?_⟩, Or.inl ⟨Or.inl (by omega), ?_, ?_, fun i i0 i1 i2 => ?_⟩⟩
    · rw [f10, f9, f7]; exact ((hF1.up (by decide +kernel)).up (by decide +kernel)).up (by decide +kernel)
    · rw [f10, f9, f7]; unfold pUp; rw [if_neg (by omega), if_neg (by omega), if_neg (by omega)]
    · rw [e11, pRow_ne h2, e8, pRow_ne h1]
    · rw [f10, f9, pUp_k (by decide), pUp_k (by decide), f7, pUp_s]; exact u3
    · rw [e11, pRow_ne (by decide), e8, pRow_at]
      unfold pCpy
      rw [if_pos ⟨i0, by show i < 0 + 297; omega⟩, show (0 : Int) + (i - 0) = i by omega]
      exact u1 i i0 i1 i2
    · rw [f10, f9, pUp_k (by decide), pUp_s]; exact u4
    · rw [f10, pUp_s]; exact u5
    · rw [e11, pRow_at]
      unfold pCpy
      rw [if_pos ⟨i0, by show i < 0 + 99; omega⟩, show (0 : Int) + (i - 0) = i by omega, e8, pRow_ne (by decide)]
      exact u2 i i0 i1 i2
end C
section R
variable {l : Launch} {G : pG} {bg : Nat × Nat} {n : Nat} {K : Int → Nat × Nat} {Q : Option pV → pM → Prop} {L : Option tLaw} {mood bud r a b v : Int} {c : Int → Int}
theorem r_come_30 {F : Int → Int → Int} (hK : KS K) (hF : FS F) (t : Nat) : ∀ (i : Int) (E : Int → Int → Int), i + t = 297 → 0 ≤ i → PW l G 8 mX12_come bg 30 [(0, (2, 66)), (4, (0, v)), (5, (0, 297))] [] (n, K, F, pRow E 97 (rCp (E 97) (E 94) i 297 0)) Q → PW l G 8 mX12_come bg 30 [(0, (2, 66)), (4, (0, v)), (5, (0, i))] [] (n, K, F, E) Q := by
  induction t with
  | zero =>
    intro i E e i0 q
    obtain rfl : i = 297 := by omega
    rw [show rCp (E 97) (E 94) 297 297 0 = E 97 from funext fun j => if_neg (by omega), pRow_self] at q
    exact q
  | succ t ih =>
    intro i E e i0 q
    refine vX12_come_30 66 v i ?_
    simp only [hF.f66_54, hF.f66_58, hK.k66, hK.k94, hK.k97]
    refine ⟨fun z => absurd z (by omega), fun _ => ⟨trivial, trivial, by omega, by decide, trivial, by omega, fun E1 e1 => ⟨by omega, ?_⟩⟩⟩
    subst e1
    refine ih (i + 1) _ (by omega) (by omega) ?_
    rw [cp_step (by decide) (by omega) (by rw [Int.add_zero])]
    exact q
theorem r_come_89 {F : Int → Int → Int} (hK : KS K) (hF : FS F) (t : Nat) : ∀ (i : Int) (E : Int → Int → Int), i + t = 99 → 0 ≤ i → PC l G 0 mX12_tell (0, 0) [(2, 66), (0, v)] (n, K, F, pRow E 98 (rCp (E 98) (E 95) i 99 0)) (fun r μ => PW l G 8 mX12_come bg 122 [] (r.toList ++ []) μ Q) → PW l G 8 mX12_come bg 89 [(0, (2, 66)), (4, (0, v)), (5, (0, i))] [] (n, K, F, E) Q := by
  induction t with
  | zero =>
    intro i E e i0 q
    obtain rfl : i = 99 := by omega
    rw [show rCp (E 98) (E 95) 99 99 0 = E 98 from funext fun j => if_neg (by omega), pRow_self] at q
    exact vX12_come_89 66 v 99 ⟨fun _ => ⟨by rw [hK.k66], q⟩, fun z => absurd (by decide) z⟩
  | succ t ih =>
    intro i E e i0 q
    refine vX12_come_89 66 v i ?_
    simp only [hF.f66_55, hF.f66_60, hK.k66, hK.k95, hK.k98]
    refine ⟨fun z => absurd z (by omega), fun _ => ⟨trivial, trivial, by omega, by decide, trivial, by omega, fun E1 e1 => ⟨by omega, ?_⟩⟩⟩
    subst e1
    refine ih (i + 1) _ (by omega) (by omega) ?_
    rw [cp_step (by decide) (by omega) (by rw [Int.add_zero])]
    exact q
theorem r_come {F E : Int → Int → Int} (hK : KS K) (hF : FS F) (hc : cz (sh6 (E 68)) = c) (hC : CInv c) (h20 : F 66 20 = 0) (hl : LawF (E 68) L) (hlo : LwOk L) (hm : E 68 5 = mood) (m0 : 0 ≤ mood ∧ mood ≤ 9) (hbu : E 68 3 = bud) (hlg : 0 ≤ F 66 8 ∧ F 66 8 ≤ 16)
    (hQ : ∀ F' E', FrZ F E F' E' → RowOk (E 68) (E' 68) (sCome c L mood bud r a b).2.1 → LgV (sCome c L mood bud r a b).1 c F E F' E' → LtN (sCome c L mood bud r a b).1 (sCome c L mood bud r a b).2.2 (F 66 59) (F' 66 59) (E 97) (E' 97) (F 66 61) (F' 66 61) (E 98) (E' 98) (F 66 62) (F' 66 62) → StR (sCome c L mood bud r a b).1 E F' E' → Q (some (0, (sCome c L mood bud r a b).1)) (n, K, F', E')) :
    PC l G 8 mX12_come bg [(2, 66), (0, r), (0, a), (0, b)] (n, K, F, E) Q := by
  have hv := sCome_v (L := L) (mood := mood) (bud := bud) (r := r) (a := a) (b := b) hC
  refine vX12_come_0 66 r a b ⟨by rw [hK.k66], fun F0 f0 => ?_⟩
  have hF0 : FS F0 := by rw [f0]; exact hF.up (by decide +kernel)
  have k0 : ∀ p k, ¬ (p = 66 ∧ k = 0) → F0 p k = F p k := fun p k q => by rw [f0]; unfold pUp; rw [if_neg q]
  refine r_comeNow (c := c) (L := L) (mood := mood) (bud := bud) hK hF0 hc hC (by rw [k0 66 20 (by omega)]; exact h20) hl hlo hm m0 hbu (by rw [k0 66 8 (by omega)]; exact hlg) fun F1 E1 w1 ro lg rr => ?_
  generalize sCome c L mood bud r a b = s at *
  have hF1 := w1.2.1
  have lg : LgV s.1 c F E F1 E1 := by
    unfold LgV at lg ⊢
    rw [k0 66 8 (by omega)] at lg
    exact lg
  have kk : ∀ p k, ¬ (p = 66 ∧ (k = 0 ∨ k = 8 ∨ k = 34 ∨ k = 38 ∨ k = 39 ∨ k = 40 ∨ k = 47 ∨ k = 49 ∨ k = 50 ∨ k = 51 ∨ k = 52 ∨ k = 53 ∨ k = 56)) → F1 p k = F p k := fun p k q => (w1.2.2 p k (by omega)).trans (k0 p k (by omega))
  have e97 : E1 97 = E 97 := w1.1 97 (by decide) (by decide) (by decide) (by decide) (by decide)
  have e98 : E1 98 = E 98 := w1.1 98 (by decide) (by decide) (by decide) (by decide) (by decide)
  have e67 : E1 67 = E 67 := w1.1 67 (by decide) (by decide) (by decide) (by decide) (by decide)
  have fin : ∀ F2 E2, FS F2 → (∀ p k, ¬ (p = 66 ∧ (k = 59 ∨ k = 61 ∨ k = 62)) → F2 p k = F1 p k) → (∀ p, p ≠ 97 → p ≠ 98 → E2 p = E1 p) → LtN s.1 s.2.2 (F 66 59) (F2 66 59) (E 97) (E2 97) (F 66 61) (F2 66 61) (E 98) (E2 98) (F 66 62) (F2 66 62) → PC l G 0 mX12_tell (0, 0) [(2, 66), (0, s.1)] (n, K, F2, E2) (fun r μ => PW l G 8 mX12_come bg 122 [] (r.toList ++ []) μ Q) := by
    intro F2 E2 hF2 k2 n2 lt
    refine k_tell hK hF2.f66_2 (by omega) (fun z => vX12_come_122 s.1 (hQ _ _ ⟨fun p h1 h2 h3 h4 h5 h6 h7 h8 => ?_, hF2.up (by decide +kernel), fun p k h1 => ?_⟩ ?_ (lg.congr ?_ ?_ ?_) ?_ ⟨?_, ?_⟩)) (fun z => vX12_come_122 s.1 (hQ _ _ ⟨fun p h1 h2 h3 h4 h5 h6 h7 h8 => ?_, hF2.up (by decide +kernel), fun p k h1 => ?_⟩ ?_ (lg.congr ?_ ?_ ?_) ?_ ⟨?_, ?_⟩))
    · rw [n2 p h7 h8]; exact w1.1 p h2 h3 h4 h5 h6
    · unfold pUp; rw [if_neg (by omega), k2 p k (by omega)]; exact kk p k (by omega)
    · rw [n2 68 (by decide) (by decide)]; exact ro
    · rw [pUp_k (by decide), k2 66 8 (by omega)]
    · exact n2 71 (by decide) (by decide)
    · exact n2 72 (by decide) (by decide)
    · rw [pUp_k (by decide), pUp_k (by decide), pUp_k (by decide)]; exact lt
    · rw [pUp_s, if_neg (by omega)]
    · rw [if_neg (by omega), n2 67 (by decide) (by decide)]; exact e67
    · rw [pUp_an h1, n2 p h7 h8]; exact w1.1 p h2 h3 h4 h5 h6
    · unfold pUp; rw [if_neg (by omega), k2 p k (by omega)]; exact kk p k (by omega)
    · rw [pUp_an (by decide), n2 68 (by decide) (by decide)]; exact ro
    · rw [pUp_k (by decide), k2 66 8 (by omega)]
    · rw [pUp_an (by decide)]; exact n2 71 (by decide) (by decide)
    · rw [pUp_an (by decide)]; exact n2 72 (by decide) (by decide)
    · rw [pUp_k (by decide), pUp_k (by decide), pUp_k (by decide), pUp_an (by decide), pUp_an (by decide)]; exact lt
    · rw [pUp_s, if_pos z]
    · rw [if_pos z, pUp1, if_pos rfl, n2 67 (by decide) (by decide), e67]
  refine vX12_come_12 66 s.1 ?_
  simp only [hK.k66]
  refine ⟨fun z => ⟨fun y => absurd z (by omega), fun y => ⟨fun x => ⟨trivial, ?_⟩, fun x => ⟨trivial, fun F3 f3 F4 f4 => ?_⟩⟩⟩, fun z => ⟨trivial, fun F5 f5 => ?_⟩⟩
  · exact fin F1 E1 hF1 (fun _ _ _ => rfl) (fun _ _ _ => rfl) ⟨Or.inr ⟨z, kk 66 59 (by omega), e97⟩, Or.inr ⟨by omega, kk 66 61 (by omega), kk 66 62 (by omega), e98⟩⟩
  · obtain ⟨u1, u2, u3, u4, u5, u6, u7⟩ := rr (Or.inr x)
    have hF4 : FS F4 := by rw [f4, f3]; exact (hF1.up (by decide +kernel)).up (by decide +kernel)
    refine r_come_89 hK hF4 99 0 E1 (by decide) (by decide) (fin F4 _ hF4 (fun p k q => ?_) (fun p h1 h2 => pRow_ne h2) ⟨Or.inr ⟨z, ?_, ?_⟩, Or.inl ⟨Or.inr x, ?_, ?_, fun i i0 i1 i2 => ?_⟩⟩)
    · rw [f4, f3]; unfold pUp; rw [if_neg (by omega), if_neg (by omega)]
    · rw [f4, f3, pUp_k (by decide), pUp_k (by decide)]; exact kk 66 59 (by omega)
    · rw [pRow_ne (by decide)]; exact e97
    · rw [f4, f3, pUp_k (by decide), pUp_s]; exact u6
    · rw [f4, pUp_s]; exact u7
    · rw [pRow_at]
      unfold rCp
      rw [if_pos ⟨i0, i2⟩, Int.add_zero]
      exact u3 i i0 i1 i2
  · obtain ⟨u1, u2, u3, u4, u5, u6, u7⟩ := rr (Or.inl (by omega))
    have hF5 : FS F5 := by rw [f5]; exact hF1.up (by decide +kernel)
    refine r_come_30 hK hF5 297 0 E1 (by decide) (by decide) ?_
    refine vX12_come_30 66 s.1 297 ⟨fun _ => ⟨fun y => ⟨by rw [hK.k66], fun F6 f6 F7 f7 => ?_⟩, fun y => absurd (by omega) y⟩, fun y => absurd (by decide) y⟩
    have hF7 : FS F7 := by rw [f7, f6]; exact (hF5.up (by decide +kernel)).up (by decide +kernel)
    refine r_come_89 hK hF7 99 0 _ (by decide) (by decide) (fin F7 _ hF7 (fun p k q => ?_) (fun p h1 h2 => (pRow_ne h2).trans (pRow_ne h1)) ⟨Or.inl ⟨y, ?_, fun i i0 i1 i2 => ?_⟩, Or.inl ⟨Or.inl y, ?_, ?_, fun i i0 i1 i2 => ?_⟩⟩)
    · rw [f7, f6, f5]; unfold pUp; rw [if_neg (by omega), if_neg (by omega), if_neg (by omega)]
    · rw [f7, f6, pUp_k (by decide), pUp_k (by decide), f5, pUp_s]; exact u5
    · rw [pRow_ne (by decide), pRow_at]
      unfold rCp
      rw [if_pos ⟨i0, i2⟩, Int.add_zero]
      exact u2 i i0 i1 i2
    · rw [f7, f6, pUp_k (by decide), pUp_s, f5, pUp_k (by decide)]; exact u6
    · rw [f7, pUp_s, f5, pUp_k (by decide)]; exact u7
    · rw [pRow_at]
      unfold rCp
      rw [if_pos ⟨i0, i2⟩, Int.add_zero, pRow_ne (by decide)]
      exact u3 i i0 i1 i2
theorem sCome_bd (hC : CInv c) (h : 0 ≤ (sCome c L mood bud r a b).1 ∨ (sCome c L mood bud r a b).1 = -5) : SBd (sCome c L mood bud r a b).2.2 19995581 15581 := by
  have cr := com_bd (L := L) (mood := mood) (bud := bud) (r := r) (a := a) (b := b) hC ogI
  unfold sCome at h ⊢
  split
  · rename_i z
    simp only [if_pos z] at h
    split
    · split
      · exact cr
      · exact cr
    · rename_i w
      simp only [if_neg w] at h
      exact absurd h (by decide)
  · rename_i z
    simp only [if_neg z] at h
    exact absurd h (by decide)
theorem lgPush_len {A B : tLog} {x : Int × (Int → Int)} (h : A.length = B.length) : (lgPush A x).length = (lgPush B x).length := by
  unfold lgPush
  rw [List.length_append, List.length_append, List.length_singleton, h]
  split
  · rw [List.length_tail, List.length_tail, h]
  · rw [h]
/-- the log of both, behind a way -/
theorem ur_new {F E F1 E1 F2 E2 : Int → Int → Int} (h : UR (F 10 2) (F 10 3) (E 11) (E 12) (F 66 8) (E 71) (E 72)) (hC : CInv c) (h1 : LgU 10 v c F E F1 E1) (h2 : LgV v c F1 E1 F2 E2) (e1 : F1 66 8 = F 66 8) (e2 : E1 71 = E 71) (e3 : E1 72 = E 72) (g1 : F2 10 2 = F1 10 2) (g2 : F2 10 3 = F1 10 3) (g3 : E2 11 = E1 11) (g4 : E2 12 = E1 12) : UR (F2 10 2) (F2 10 3) (E2 11) (E2 12) (F2 66 8) (E2 71) (E2 72) := by
  obtain ⟨u1, u2⟩ := ur_lg h
  rw [g1, g2, g3, g4]
  rcases h1 with ⟨_, v0, ⟨q1, q2, q3⟩, q4⟩ | ⟨q0, q1, q2, q3, q4⟩
  · rcases h2 with ⟨_, ⟨p1, p2⟩, p3, _⟩ | ⟨p0, _⟩
    · rw [e1, e2, e3, u1] at p3
      have lg : lgR (F2 66 8) (E2 72) (E2 71) = lgC (F1 10 2) (F1 10 3) (E1 11) (E1 12) := p3.trans q4.symm
      have nz : F2 66 8 = F1 10 3 := by
        have l1 := congrArg List.length lg
        rw [lgR_len, lgC_len] at l1
        omega
      rw [nz] at lg ⊢
      refine lg_ur q1.1 q1.2 q2 q3 lg ?_
      rw [q4]
      exact u2.push ⟨⟨Int.le_refl 0, (by decide : (0 : Int) ≤ 4)⟩, hC⟩
    · omega
  · rcases h2 with ⟨p0, _⟩ | ⟨_, p1, p2, p3⟩
    · omega
    · rw [p1, p2, p3, q1, q2, q3, q4, e1, e2, e3]
      exact h
end R
theorem two_come {l : Launch} {G : pG} {r a b : Int} : Pair lawLR l G 32 mX11_come (0, 0) 8 mX12_come (0, 0) [(0, r), (0, a), (0, b)] := by
  intro n K F E h
  have hK := h.KS
  have hF := h.FS
  have hC := cinv_cz h.2.1.1.2
  have hu := h.2.2.2.2.1
  obtain ⟨L, hl, hlr⟩ := inv_law h
  obtain ⟨⟨t1, t2, t3⟩, ti⟩ := inv_terms h
  refine c_come (c := cz (E 3)) hK hF rfl hC hl rfl ti.2.2 rfl ⟨hu.1, hu.2.1⟩ fun F1 E1 w1 cy lg1 lt1 st1 => ⟨_, rfl, ek_out w1.ek, hK, ?_⟩
  have e68 : E1 68 = E 68 := w1.1 68 (by decide) (by decide) (by decide) (by decide) (by decide) (by decide) (by decide) (by decide) (by decide)
  have e66 : ∀ k, F1 66 k = F 66 k := fun k => w1.2.2 66 k (by decide) (by decide) (by decide) (by omega)
  have er : ∀ p, 66 ≤ p → E1 p = E p := fun p hp => w1.1 p (by omega) (by omega) (by omega) (by omega) (by omega) (by omega) (by omega) (by omega) (by omega)
  refine r_come (c := cz (E 3)) (L := L) (mood := E 4 2) (bud := E 4 0) hK w1.2.1 (by rw [e68]; exact rel_cz h.2.1.1.1) hC (by rw [e66]; exact h.2.2.2.2.2.2.2.2.2.2) (by rw [e68]; exact hlr) hl.2 (by rw [e68]; exact t3) ti.2.2 (by rw [e68]; exact t1) (by rw [e66, hu.2.2.1]; exact hu.2.1) fun F2 E2 w2 ro lg2 lt2 st2 => ?_
  have bd := sCome_bd (c := cz (E 3)) (L := L) (mood := E 4 2) (bud := E 4 0) (r := r) (a := a) (b := b) hC
  have hv := sCome_v (L := L) (mood := E 4 2) (bud := E 4 0) (r := r) (a := a) (b := b) hC
  have ci := cinv_come (L := L) (mood := E 4 2) (bud := E 4 0) (r := r) (a := a) (b := b) hC
  generalize sCome (cz (E 3)) L (E 4 2) (E 4 0) r a b = s at *
  have er2 : ∀ p, p < 66 → E2 p = E1 p := fun p hp => w2.1 p (by omega) (by omega) (by omega) (by omega) (by omega) (by omega) (by omega) (by omega)
  have ef2 : ∀ p k, p ≠ 66 → F2 p k = F1 p k := fun p k hp => w2.2.2 p k (by omega)
  refine ⟨rfl, ek_out w2.ek, ?_⟩
  show Inv lawLR G n K F2 E2
  refine inv_act lawLOk h (w1.fk.trans w2.fk) (w1.ek.trans w2.ek) (c := s.2.1) (by rw [← e68]; exact ro) (by show cz (E2 3) = _; rw [er2 3 (by decide)]; exact cy) ci ?_ ?_ ⟨?_, ?_⟩
  · exact ur_new hu hC lg1 lg2 (e66 8) (er 71 (by decide)) (er 72 (by decide)) (ef2 10 2 (by decide)) (ef2 10 3 (by decide)) (er2 11 (by decide)) (er2 12 (by decide))
  · rw [e66 59, e66 61, e66 62, er 97 (by decide), er 98 (by decide)] at lt2
    rw [ef2 41 1 (by decide), ef2 41 3 (by decide), ef2 41 4 (by decide), er2 42 (by decide), er2 43 (by decide)]
    exact ltr_new h.2.2.2.2.2.2.1 lt1 lt2 (fun z => (bd (Or.inl z)).2.2.1) (fun z => (bd z).2.2.2.1)
  · rw [st2.1, ef2 0 16 (by decide), st1.1]
  · rw [st2.2, er2 49 (by decide), st1.2, er 67 (by decide)]
    have hst := h.2.2.2.2.2.2.2.1.2
    by_cases z : s.1 < 0
    · rw [if_pos z, if_pos z]; exact rfr_up hst (by omega)
    · rw [if_neg z, if_neg z]; exact hst
