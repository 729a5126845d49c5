/-! the pairs image, back -/
theorem KR.congr {LA : Int → (Int → Int) → Prop} {cA cT c1 c2 cL g cA' cT' c1' c2' cL' g' : Int → Int} {s l f : Int} (h : KR LA cA cT c1 c2 cL s l f g) (hl : ∀ t r r', (∀ j, 0 ≤ j → j < 900 → r' j = r j) → LA t r → LA t r')
    (a : ∀ k, 0 ≤ k → k < 117 → cA' k = cA k) (b : ∀ k, 0 ≤ k → k < 3 → cT' k = cT k) (c : ∀ k, 0 ≤ k → k < 6 → c1' k = c1 k) (d : ∀ k, 0 ≤ k → k < 6 → c2' k = c2 k) (e : ∀ k, 0 ≤ k → k < 6 → cL' k = cL k) (q : ∀ k, 0 ≤ k → k < 5535 → g' k = g k) : KR LA cA' cT' c1' c2' cL' s l f g' := by
  obtain ⟨⟨h1, h2⟩, ⟨⟨h3, h4, h5⟩, h6⟩, ⟨h7, h8, h9, h10⟩, ⟨h11, h12, h13, h14, h15⟩, h16, h17, h18⟩ := h
  refine ⟨⟨fun k k0 k1 => ?_, h2.congr a⟩, ⟨⟨?_, ?_, ?_⟩, ?_⟩, ⟨?_, h8, h9, fun k k0 k1 => ?_⟩, ⟨?_, h12, h13, fun i i0 i1 => ?_, fun i i0 i1 => ?_⟩, ?_, h17, h18⟩
  · rw [q _ (by omega) (by omega), a k k0 k1]
    exact h1 k k0 k1
  · rw [q _ (by decide) (by decide), b _ (by decide) (by decide)]; exact h3
  · rw [q _ (by decide) (by decide), b _ (by decide) (by decide)]; exact h4
  · rw [q _ (by decide) (by decide), b _ (by decide) (by decide)]; exact h5
  · unfold TInv
    rw [b 0 (by decide) (by decide), b 1 (by decide) (by decide), b 2 (by decide) (by decide)]
    exact h6
  · rw [q _ (by decide) (by decide)]; exact h7
  · rw [q _ (by omega) (by omega), q _ (by omega) (by omega), c k k0 (by omega), d k k0 (by omega)]
    exact h10 k k0 k1
  · rw [q _ (by decide) (by decide)]; exact h11
  · rw [e i i0 (by omega)]
    exact hl _ _ _ (fun j j0 j1 => q _ (by omega) (by omega)) (h14 i i0 i1)
  · rw [e i i0 i1]
    exact h15 i i0 i1
  · rw [q _ (by decide) (by decide)]; exact h16
section I
variable {l : Launch} {G : pG} {bg : Nat × Nat} {n : Nat} {K : Int → Nat × Nat} {F : Int → Int → Int} {Q : Option pV → pM → Prop} {x y p p' a a' t t' b b' c c' w w' : Int}
theorem c_copy_65 (hx : (K x).1 = 1) (hy : (K y).1 = 1) (hxw : F x 5 = w) (hyw : F y 5 = w') (kw : K w = (25, 6)) (kw' : K w' = (25, 6)) (w0 : 0 ≤ w) (w0' : 0 ≤ w') (ne : w' ≠ w) (nxy : y ≠ x) (m : Nat) : ∀ (i : Int) (E : Int → Int → Int), i + m = 6 → 0 ≤ i → (∀ j, 0 ≤ j → j < 6 → E w' j = -1 ∨ (K (E w' j)).1 = 9) → Q none (n, K, pUp (pUp F x 6 (F y 6)) x 7 (F y 7), pRow E w (rCp (E w) (E w') i 6 0)) → PW l G 1 mX1_copy bg 65 [(0, (2, x)), (1, (2, y)), (2, (0, i))] [] (n, K, F, E) Q := by
  induction m with
  | zero =>
    intro i E e i0 hw q
    refine vX1_copy_65 x y i ⟨fun _ => ⟨hy, hx, fun F1 e1 F2 e2 => ?_⟩, fun z => absurd (by omega) z⟩
    rw [rCp_none (by omega), pRow_self] at q
    rw [e2, e1, pUp_a nxy]
    exact q
  | succ m ih =>
    intro i E e i0 hw q
    refine vX1_copy_65 x y i ⟨fun z => absurd z (by omega), fun _ => ?_⟩
    rw [hxw, hyw, kw, kw']
    refine ⟨hx, hy, w0', rfl, ⟨i0, show i < 6 by omega⟩, w0, rfl, ⟨i0, show i < 6 by omega⟩, hw i i0 (by omega), fun E3 e3 => ⟨by omega, ?_⟩⟩
    refine ih (i + 1) E3 (by omega) (by omega) (fun j j0 j1 => ?_) ?_
    · rw [e3, pUp_an ne]
      exact hw j j0 j1
    · rw [e3, cp_step ne (by omega) (by congr 1; omega)]
      exact q
/-- all of one kept object becomes another's -/
theorem c_copy {E : Int → Int → Int} (hx : (K x).1 = 1) (hy : (K y).1 = 1) (hp : F x 0 = p) (hp' : F y 0 = p') (kp : (K p).1 = 0) (kp' : (K p').1 = 0) (ha : F p 0 = a) (ha' : F p' 0 = a') (ka : K a = (20, 117)) (ka' : K a' = (20, 117)) (ht : F x 1 = t) (ht' : F y 1 = t') (kt : K t = (20, 3)) (kt' : K t' = (20, 3))
    (hb : F x 2 = b) (hb' : F y 2 = b') (kb : K b = (20, 6)) (kb' : K b' = (20, 6)) (hc : F x 3 = c) (hc' : F y 3 = c') (kc : K c = (20, 6)) (kc' : K c' = (20, 6)) (hxw : F x 5 = w) (hyw : F y 5 = w') (kw : K w = (25, 6)) (kw' : K w' = (25, 6))
    (pos : 0 ≤ a ∧ 0 ≤ a' ∧ 0 ≤ t ∧ 0 ≤ t' ∧ 0 ≤ b ∧ 0 ≤ b' ∧ 0 ≤ c ∧ 0 ≤ c' ∧ 0 ≤ w ∧ 0 ≤ w') (ne : t' ≠ a ∧ b' ≠ a ∧ c' ≠ a ∧ w' ≠ a ∧ b' ≠ t ∧ c' ≠ t ∧ w' ≠ t ∧ c' ≠ b ∧ w' ≠ b ∧ w' ≠ c ∧ w' ≠ w ∧ y ≠ x) (ne2 : t ≠ a ∧ b ≠ a ∧ c ≠ a ∧ w ≠ a ∧ b ≠ t ∧ c ≠ t ∧ w ≠ t ∧ c ≠ b ∧ w ≠ b ∧ w ≠ c)
    (hw : ∀ j, 0 ≤ j → j < 6 → E w' j = -1 ∨ (K (E w' j)).1 = 9)
    (hQ : ∀ E', (∀ k, 0 ≤ k → k < 117 → E' a k = E a' k) → (∀ k, 0 ≤ k → k < 3 → E' t k = E t' k) → (∀ k, 0 ≤ k → k < 6 → E' b k = E b' k) → (∀ k, 0 ≤ k → k < 6 → E' c k = E c' k) → (∀ k, 0 ≤ k → k < 6 → E' w k = E w' k) → (∀ r, r ≠ a → r ≠ t → r ≠ b → r ≠ c → r ≠ w → E' r = E r) → Q none (n, K, pUp (pUp (pUp F x 4 (F y 4)) x 6 (F y 6)) x 7 (F y 7), E')) :
    PC l G 1 mX1_copy bg [(2, x), (2, y)] (n, K, F, E) Q := by
  obtain ⟨p1, p2, p3, p4, p5, p6, p7, p8, p9, p10⟩ := pos
  obtain ⟨n1, n2, n3, n4, n5, n6, n7, n8, n9, n10, n11, n12⟩ := ne
  obtain ⟨m1, m2, m3, m4, m5, m6, m7, m8, m9, m10⟩ := ne2
  refine vX1_copy_0 x y ?_
  simp only [hp, hp', ha, ha', ht, ht', hb, hb', hc, hc', ka, ka', kt, kt', kb, kb', kc, kc']
  refine ⟨hx, hy, kp, kp', p2, trivial, p1, trivial, by decide, fun E1 e1 => ⟨p4, trivial, p3, trivial, by decide, fun E2 e2 => ⟨p6, trivial, p5, trivial, by decide, fun E3 e3 => ⟨p8, trivial, p7, trivial, by decide, fun E4 e4 F5 e5 => ?_⟩⟩⟩⟩
  have f5 : ∀ z k, k ≠ 4 → F5 z k = F z k := fun z k hk => by
    rw [e5]
    unfold pUp
    rw [if_neg (fun q => hk q.2)]
  have o4 : ∀ r, r ≠ a → r ≠ t → r ≠ b → r ≠ c → E4 r = E r := fun r q1 q2 q3 q4 => by
    rw [e4, pRow_ne q4, e3, pRow_ne q3, e2, pRow_ne q2, e1, pRow_ne q1]
  refine c_copy_65 hx hy ((f5 x 5 (by decide)).trans hxw) ((f5 y 5 (by decide)).trans hyw) kw kw' p9 p10 n11 n12 6 0 E4 (by omega) (by omega) (fun j j0 j1 => ?_) ?_
  · rw [o4 w' n4 n7 n9 n10]
    exact hw j j0 j1
  · rw [f5 y 6 (by decide), f5 y 7 (by decide), e5]
    refine hQ _ (fun k k0 k1 => ?_) (fun k k0 k1 => ?_) (fun k k0 k1 => ?_) (fun k k0 k1 => ?_) (fun k k0 k1 => ?_) (fun r q1 q2 q3 q4 q5 => ?_)
    · rw [pRow_ne (Ne.symm m4), e4, pRow_ne (Ne.symm m3), e3, pRow_ne (Ne.symm m2), e2, pRow_ne (Ne.symm m1), e1, pRow_at]
      unfold pCpy
      rw [if_pos (by omega)]
      congr 1
      omega
    · rw [pRow_ne (Ne.symm m7), e4, pRow_ne (Ne.symm m6), e3, pRow_ne (Ne.symm m5), e2, pRow_at]
      unfold pCpy
      rw [if_pos (by omega), e1, pRow_ne n1]
      congr 1
      omega
    · rw [pRow_ne (Ne.symm m9), e4, pRow_ne (Ne.symm m8), e3, pRow_at]
      unfold pCpy
      rw [if_pos (by omega), e2, pRow_ne n5, e1, pRow_ne n2]
      congr 1
      omega
    · rw [pRow_ne (Ne.symm m10), e4, pRow_at]
      unfold pCpy
      rw [if_pos (by omega), e3, pRow_ne n8, e2, pRow_ne n6, e1, pRow_ne n3]
      congr 1
      omega
    · rw [pRow_at, o4 w' n4 n7 n9 n10]
      unfold rCp
      rw [if_pos (by omega)]
      congr 1
      omega
    · rw [pRow_ne q5]
      exact o4 r q1 q2 q3 q4
theorem r_image_23 {k : Int} (hK : KS K) (hF : FS F) (k0 : 0 ≤ k) (k1 : k < 2) (m : Nat) : ∀ (i : Int) (E : Int → Int → Int), i + m = 5535 → 0 ≤ i → Q (some (0, 0)) (n, K, pUp F 66 1 0, pUp (pRow E 69 (rCp (E 69) (E 68) (5535 * k + i) (5535 * k + 5535) (-5535 * k))) 70 k 1) → PW l G 1 mX12_image bg 23 [(0, (2, 66)), (1, (0, k)), (2, (0, i))] [] (n, K, F, E) Q := by
  induction m with
  | zero =>
    intro i E e i0 q
    refine vX12_image_23 66 k i ⟨fun _ => ?_, fun z => absurd (by omega) z⟩
    rw [rCp_none (by omega), pRow_self] at q
    simp only [hF.f66_5, hK.k66, hK.k70]
    refine ⟨trivial, by decide, trivial, by omega, fun E1 e1 => k_tell hK hF.f66_2 (by decide) (fun _ => ?_) (fun z => absurd z (by decide))⟩
    rw [e1]
    exact vX12_image_66 _ q
  | succ m ih =>
    intro i E e i0 q
    refine vX12_image_23 66 k i ⟨fun z => absurd z (by omega), fun _ => ?_⟩
    simp only [hF.f66_3, hF.f66_4, hK.k66, hK.k68, hK.k69]
    refine ⟨trivial, by omega, by omega, trivial, by omega, by decide, trivial, by omega, fun E2 e2 => ⟨by omega, ?_⟩⟩
    refine ih (i + 1) E2 (by omega) (by omega) ?_
    rw [e2, show 5535 * k + (i + 1) = 5535 * k + i + 1 by omega, cp_step (by decide) (by omega) (by congr 1; omega)]
    exact q
theorem r_back_39 {k : Int} (hK : KS K) (hF : FS F) (k0 : 0 ≤ k) (k1 : k < 2) (m : Nat) : ∀ (i : Int) (E : Int → Int → Int), i + m = 5535 → 0 ≤ i → Q (some (0, 0)) (n, K, pUp (pUp F 66 8 0) 66 1 0, pRow E 68 (rCp (E 68) (E 69) i 5535 (5535 * k))) → PW l G 1 mX12_back bg 39 [(0, (2, 66)), (1, (0, k)), (2, (0, i))] [] (n, K, F, E) Q := by
  induction m with
  | zero =>
    intro i E e i0 q
    refine vX12_back_39 66 k i ⟨fun _ => ?_, fun z => absurd (by omega) z⟩
    rw [rCp_none (by omega), pRow_self] at q
    refine ⟨by rw [hK.k66], fun F1 e1 => ?_⟩
    subst e1
    refine k_tell hK (hF.up (by decide +kernel)).f66_2 (by decide) (fun _ => ?_) (fun z => absurd z (by decide))
    exact vX12_back_80 _ q
  | succ m ih =>
    intro i E e i0 q
    refine vX12_back_39 66 k i ⟨fun z => absurd z (by omega), fun _ => ?_⟩
    simp only [hF.f66_3, hF.f66_4, hK.k66, hK.k68, hK.k69]
    refine ⟨trivial, by omega, by omega, trivial, by omega, by decide, trivial, by omega, fun E2 e2 => ⟨by omega, ?_⟩⟩
    refine ih (i + 1) E2 (by omega) (by omega) ?_
    rw [e2, cp_step (by decide) (by omega) (by congr 1; omega)]
    exact q
end I
/-- a refusal of both -/
theorem no_both {LR : tLR} {G : pG} {n : Nat} {K : Int → Nat × Nat} {F E : Int → Int → Int} (hL : LOk LR) {v : Int} (h : Inv LR G n K F E) (hv : v = -1 ∨ v = -2 ∨ v = -3 ∨ v = -5 ∨ v = -6) :
    Inv LR G n K (pUp (pUp (pUp F 0 16 v) 66 0 0) 66 1 v) (pUp (pUp E 49 (rfx v) (w32 (E 49 (rfx v) + 1))) 67 (-v) (w32 (E 67 (-v) + 1))) := by
  have hk := h.2.1
  have fk := ((((FK.refl h.FS).up (a := 0) (k := 16) (v := v) (by decide +kernel) (by decide +kernel) (by decide)).up (a := 66) (k := 0) (v := 0) (by decide +kernel) (by decide +kernel) (by decide)).up (a := 66) (k := 1) (v := v) (by decide +kernel) (by decide +kernel) (by decide))
  refine inv_act hL h fk ((EK.refl.up (by decide)).up (by decide)) (c := cz (E 3)) ⟨?_, fun j _ => ?_⟩ ?_ (cinv_cz hk.1.2) ?_ ?_ ?_
  · rw [pUp_an (by decide), pUp_an (by decide)]; exact rel_cz hk.1.1
  · rw [pUp_an (by decide), pUp_an (by decide)]
  · rw [pUp_an (by decide), pUp_an (by decide)]
  · simp only [pUp1, rUpA, Int.reduceEq, reduceIte]
    exact h.2.2.2.2.1
  · simp only [pUp1, rUpA, Int.reduceEq, reduceIte]
    exact h.2.2.2.2.2.2.1
  · simp only [pUp1, rUpA, Int.reduceEq, reduceIte]
    exact ⟨trivial, rfr_up h.2.2.2.2.2.2.2.1.2 hv⟩
