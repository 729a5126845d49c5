/-! A WHOLE WAY: from its beginning, in both programs -/
def stI (c : Int → Int) (r : Int) : Int → Int := fun p => if p = r then c 1 + 1 else 0
def fdI (r a b : Int) : Int → Int := hdS (fun _ => 0) r a b
def sI (c : Int → Int) : tS := (fun o => if 0 ≤ o ∧ o < c 0 then c (12 + o * 6 + 5) else 0, fun _ => 0, fun _ => 0, fun _ => 0)
def bB (c : Int → Int) (r a b mood : Int) : Int → Int := fun k => if k = 2 then r else if k = 3 then a else if k = 4 then b else if k = 7 then mood else if k = 8 then c 1 + 1 else 0
/-- all that comes of a tuple -/
noncomputable def comS (c : Int → Int) (L : Option tLaw) (mood bud : Int) (og : Int → Int) (fx : Bool) (r a b : Int) : tS := pS c (csS L (bB c r a b mood)) bud og fx (c 0).toNat 0 0 0 (stI c r) (fdI r a b) (sI c)
theorem Xb_le {k : Nat} (h : k ≤ 4) : Xb k ≤ 15581 := by
  rcases (show k = 0 ∨ k = 1 ∨ k = 2 ∨ k = 3 ∨ k = 4 by omega) with e | e | e | e | e <;> subst e <;> decide
theorem bB_ok {c : Int → Int} {r a b mood : Int} (hC : CInv c) (hr : 0 ≤ r ∧ r < 3) (ha : 0 ≤ a ∧ a < 10) (hb : 0 ≤ b ∧ b < 10) (hm : 0 ≤ mood ∧ mood ≤ 9) : BOk (bB c r a b mood) := by
  intro k k0 k1
  have := hC.2.1
  unfold bB
  split
  · omega
  · split
    · omega
    · split
      · omega
      · split
        · omega
        · split <;> omega
theorem sI_bd {c : Int → Int} (hC : CInv c) : SBd (sI c) 19980000 0 := by
  refine ⟨fun o => ?_, by simp only [sI]; omega, by simp only [sI]; omega, by simp only [sI]; omega, by simp only [sI]; omega, Or.inl rfl⟩
  show -19980000 ≤ (if 0 ≤ o ∧ o < c 0 then c (12 + o * 6 + 5) else 0) ∧ (if 0 ≤ o ∧ o < c 0 then c (12 + o * 6 + 5) else 0) ≤ 19980000
  by_cases h : 0 ≤ o ∧ o < c 0
  · have q := (hC.2.2.2.2.1 o h.1 h.2).2.2.1
    have b := hC.2.1
    rw [if_pos h, show 12 + o * 6 + 5 = 17 + 6 * o by omega]
    omega
  · rw [if_neg h]; omega
theorem ptI {c : Int → Int} {r a b : Int} (hC : CInv c) (ha : 0 ≤ a ∧ a < 10) (hb : 0 ≤ b ∧ b < 10) : PtOk (stI c r) (fdI r a b) := by
  intro p p0 p1
  have b1 := hC.2.1
  unfold stI fdI hdS
  by_cases e : p = r
  · subst e
    rw [if_pos rfl]
    refine ⟨by omega, fun _ f f0 f1 => ?_⟩
    rcases (show f = 0 ∨ f = 1 by omega) with ef | ef <;> subst ef
    · rw [rUp_n (by omega), show p * 2 + 0 = p * 2 by omega, rUp_s]; exact ha
    · rw [rUp_s]; exact hb
  · rw [if_neg e]
    exact ⟨by omega, fun q => absurd q (by omega)⟩
theorem stokI {c : Int → Int} {r a b : Int} (hC : CInv c) : StOk c r a b (stI c r) (fdI r a b) := by
  have b1 := hC.2.1
  refine ⟨by unfold stI; rw [if_pos rfl]; omega, fun p p0 p1 => ?_⟩
  unfold stI fdI hdS
  by_cases e : p = r
  · subst e
    rw [if_pos rfl]
    refine ⟨by omega, fun _ => Or.inl ⟨rfl, rfl, ?_, rUp_s⟩⟩
    rw [rUp_n (by omega), show p * 2 + 0 = p * 2 by omega, rUp_s]
  · rw [if_neg e]
    exact ⟨by omega, fun q => absurd q (by omega)⟩
theorem missI {c : Int → Int} {r : Int} (hC : CInv c) (hr : 0 ≤ r ∧ r < 3) : missN (stI c r) = 2 := by
  have b1 := hC.2.1
  unfold missN stI
  have h0 : (c 1 + 1 = 0) = False := eq_false (by omega)
  rcases (show r = 0 ∨ r = 1 ∨ r = 2 by omega) with e | e | e <;> subst e <;> simp only [Int.reduceEq, reduceIte, h0] <;> omega
theorem com_bd {c : Int → Int} {L : Option tLaw} {mood bud : Int} {og : Int → Int} {fx : Bool} {r a b : Int} (hC : CInv c) (hog : OgOk c og fx) : SBd (comS c L mood bud og fx r a b) 19995581 15581 := by
  have b0 := hC.1
  have xl := Xb_le (k := (c 0).toNat) (by omega)
  exact (pS_bd (fun _ _ _ _ => csS_rng) hC hog.1 (c 0).toNat 0 0 0 _ _ _ _ _ (by decide) (by omega) (sI_bd hC)).wide (by omega) (by omega)
/-- what the class's way changes, from setTerms on -/
def FrW (F E F' E' : Int → Int → Int) : Prop := (∀ r, r ≠ 32 → r ≠ 33 → r ≠ 36 → r ≠ 37 → r ≠ 38 → r ≠ 39 → r ≠ 40 → E' r = E r) ∧ FS F' ∧ ∀ a k, a ≠ 30 → F' a k = F a k
theorem FrC.w {F E F' E' : Int → Int → Int} (h : FrC F E F' E') : FrW F E F' E' := ⟨h.1, h.2.2.1, fun a k ha => h.2.2.2 a k (by omega)⟩
theorem FrW.refl {F E : Int → Int → Int} (h : FS F) : FrW F E F E := ⟨fun _ _ _ _ _ _ _ _ => rfl, h, fun _ _ _ => rfl⟩
theorem FrW.trans {F E F' E' F'' E'' : Int → Int → Int} (h : FrW F E F' E') (h' : FrW F' E' F'' E'') : FrW F E F'' E'' := by
  obtain ⟨a1, a2, a3⟩ := h
  obtain ⟨b1, b2, b3⟩ := h'
  exact ⟨fun r h1 h2 h3 h4 h5 h6 h7 => (b1 r h1 h2 h3 h4 h5 h6 h7).trans (a1 r h1 h2 h3 h4 h5 h6 h7), b2, fun a k q => (b3 a k q).trans (a3 a k q)⟩
theorem FrW.up {F E F' E' : Int → Int → Int} {k v : Int} (h : FrW F E F' E') (hk : fTab.all (fun t => !(decide (t.1 = 30) && decide (t.2.1 = k))) = true) : FrW F E (pUp F' 30 k v) E' := by
  obtain ⟨a1, a2, a3⟩ := h
  exact ⟨a1, a2.up hk, fun a j q => (pUp_a q).trans (a3 a j q)⟩
theorem FrW.upE {F E F' E' : Int → Int → Int} {a k v : Int} (h : FrW F E F' E') (ha : a = 32 ∨ a = 33 ∨ a = 36 ∨ a = 37 ∨ a = 38 ∨ a = 39 ∨ a = 40) : FrW F E F' (pUp E' a k v) := by
  obtain ⟨a1, a2, a3⟩ := h
  exact ⟨fun r h1 h2 h3 h4 h5 h6 h7 => (pUp_an (by omega)).trans (a1 r h1 h2 h3 h4 h5 h6 h7), a2, a3⟩
section C
variable {l : Launch} {G : pG} {bg : Nat × Nat} {n : Nat} {K : Int → Nat × Nat} {Q : Option pV → pM → Prop} {x y : Int} {c : Int → Int} {L : Option tLaw} {bud mood : Int} {og : Int → Int} {fx : Bool} {r a b : Int}
theorem c_setTuple_81 (hK : KS K) {F : Int → Int → Int} (hF : FS F) (hx : (K x).1 = 0) (hy : F x 0 = y) (ky : K y = (20, 117)) (ny : y ≠ 38) (N0 : 0 ≤ c 0) (N4 : c 0 ≤ 4) (w : Nat) : ∀ (i : Int) (E : Int → Int → Int), (∀ k, 0 ≤ k → k < 117 → E y k = c k) → i + w = c 0 → 0 ≤ i → (∀ o, 0 ≤ o → o < i → E 38 o = c (12 + o * 6 + 5)) → (∀ E', (∀ r, r ≠ 38 → E' r = E r) → (∀ o, 0 ≤ o → o < c 0 → E' 38 o = c (12 + o * 6 + 5)) → Q none (n, K, pUp (pUp (pUp (pUp (pUp (pUp F 30 6 0) 30 12 0) 30 13 0) 30 14 0) 30 15 0) 30 16 0, E')) → PW l G 1 mX6_setTuple bg 81 [(0, (2, 30)), (1, (2, x)), (5, (0, i))] [] (n, K, F, E) Q := by
  induction w with
  | zero =>
    intro i E hc e i0 hi hQ
    refine vX6_setTuple_81 30 x i ?_
    rw [hy, ky, hc 0 (by decide) (by decide)]
    refine ⟨hx, rfl, ⟨by decide, by decide⟩, fun _ => ⟨by rw [hK.k30], fun F1 e1 F2 e2 F3 e3 F4 e4 F5 e5 F6 e6 => ?_⟩, fun z => absurd (by omega) z⟩
    rw [e6, e5, e4, e3, e2, e1]
    exact hQ E (fun _ _ => rfl) (fun o o0 o1 => hi o o0 (by omega))
  | succ w ih =>
    intro i E hc e i0 hi hQ
    have r5 := hc (12 + i * 6 + 5) (by omega) (by omega)
    refine vX6_setTuple_81 30 x i ?_
    rw [hy, ky, hc 0 (by decide) (by decide), r5]
    simp only [hF.f30_9, hK.k30, hK.k38]
    refine ⟨hx, trivial, by decide, fun z => absurd z (by omega), fun _ => ⟨trivial, by omega, by omega, by omega, by omega, by decide, trivial, by omega, fun E7 e7 => ⟨by omega, ?_⟩⟩⟩
    refine ih (i + 1) E7 (fun k k0 k1 => ?_) (by omega) (by omega) (fun o o0 o1 => ?_) fun E' r' t' => hQ E' (fun r hr => ?_) t'
    · rw [e7, pUp_an ny]; exact hc k k0 k1
    · rw [e7]
      by_cases q : o = i
      · rw [q, pUp_s]
      · rw [pUp_k q]; exact hi o o0 (by omega)
    · rw [r' r hr, e7, pUp_an hr]
theorem c_setTuple {F E : Int → Int → Int} (hK : KS K) (hF : FS F) (hx : (K x).1 = 0) (hy : F x 0 = y) (ky : K y = (20, 117)) (nx : x ≠ 30) (ny : y = 3 ∨ y = 17 ∨ y = 19) (hc : cz (E y) = c) (hC : CInv c) (hl : ((L = none ∧ F 30 3 = -1) ∨ ∃ L', L = some L' ∧ LawC K F E (F 30 3) L') ∧ LwOk L) (hbud : F 30 5 = bud) (hog : OgOk c og fx ∧ ((fx = false ∧ F 30 4 = -1) ∨ (fx = true ∧ F 30 4 = 51 ∧ ∀ i, 0 ≤ i → i < c 0 → E 51 i = og i))) (hm : E 33 7 = mood) (m0 : 0 ≤ mood ∧ mood ≤ 9) (hr : 0 ≤ r ∧ r < 3) (ha : 0 ≤ a ∧ a < 10) (hb : 0 ≤ b ∧ b < 10)
    (hQ : ∀ F' E', FrW F E F' E' → CtxC K F' E' x y c L bud og fx (bB c r a b mood) → RepC F' E' (c 0) (stI c r) (fdI r a b) (sI c) 0 → Q none (n, K, F', E')) : PC l G 1 mX6_setTuple bg [(2, 30), (2, x), (0, r), (0, a), (0, b)] (n, K, F, E) Q := by
  have b0 := hC.1
  have b1 := hC.2.1
  have rd : ∀ k, 0 ≤ k → k < 117 → E y k = c k := fun k k0 k1 => by rw [← hc, cz_in k0 k1]
  refine vX6_setTuple_0 30 x r a b ?_
  simp only [hF.f30_1, hK.k30, hK.k33, hy, ky]
  refine ⟨trivial, fun F1 f1 => ⟨by decide, trivial, by decide, fun E2 e2 => ⟨by decide, fun E3 e3 => ⟨by decide, fun E4 e4 => ?_⟩⟩⟩⟩
  have y4 : E4 y 1 = c 1 := by rw [e4, pUp_a (by omega), e3, pUp_a (by omega), e2, pUp_a (by omega)]; exact rd 1 (by decide) (by decide)
  rw [y4]
  refine ⟨hx, trivial, by decide, by omega, by decide, fun E5 e5 => ?_⟩
  have hF1 : FS F1 := by rw [f1]; exact hF.up (by decide +kernel)
  have st : ∀ (i : Int) (E : Int → Int → Int), 0 ≤ i → i < 3 → PW l G 1 mX6_setTuple bg 43 [(0, (2, 30)), (1, (2, x)), (2, (0, r)), (3, (0, a)), (4, (0, b)), (5, (0, i + 1))] [] (n, K, F1, pUp E 36 i 0) Q → PW l G 1 mX6_setTuple bg 43 [(0, (2, 30)), (1, (2, x)), (2, (0, r)), (3, (0, a)), (4, (0, b)), (5, (0, i))] [] (n, K, F1, E) Q := fun i E i0 i1 q => by
    refine vX6_setTuple_43 30 x r a b i ⟨fun z => absurd z (by omega), fun _ => ?_⟩
    simp only [hF1.f30_7, hK.k30, hK.k36]
    refine ⟨trivial, by decide, trivial, by omega, fun E4 e4 => ⟨by omega, ?_⟩⟩
    rw [e4]; exact q
  refine st 0 E5 (by decide) (by decide) (st (0 + 1) _ (by decide) (by decide) (st (0 + 1 + 1) _ (by decide) (by decide) ?_))
  generalize e6 : pUp (pUp (pUp E5 36 0 0) 36 (0 + 1) 0) 36 (0 + 1 + 1) 0 = E6
  have n36 : ∀ p, p ≠ 36 → E6 p = E5 p := fun p hp => by rw [← e6, pUp_an hp, pUp_an hp, pUp_an hp]
  have v36 : ∀ p, 0 ≤ p → p < 3 → E6 36 p = 0 := fun p p0 p1 => by
    rw [← e6]
    rcases (show p = 0 ∨ p = 1 ∨ p = 2 by omega) with e | e | e <;> subst e
    · rw [pUp_k (by decide), pUp_k (by decide), pUp_s]
    · rw [pUp_k (by decide)]; exact pUp_s
    · exact pUp_s
  have n33 : ∀ p, p ≠ 33 → E5 p = E p := fun p hp => by rw [e5, pUp_an hp, e4, pUp_an hp, e3, pUp_an hp, e2, pUp_an hp]
  have w8 : E6 33 8 = c 1 + 1 := by rw [n36 33 (by decide), e5, pUp_s]
  refine vX6_setTuple_43 30 x r a b (0 + 1 + 1 + 1) ⟨fun _ => ?_, fun z => absurd (by decide) z⟩
  simp only [hF1.f30_1, hF1.f30_7, hF1.f30_8, hK.k30, hK.k33, hK.k36, hK.k37, w8]
  refine ⟨trivial, trivial, by decide, by omega, by decide, trivial, by omega, fun E7 e7 => ⟨by omega, by omega, fun E8 e8 => ⟨by decide, trivial, by omega, fun E9 e9 => ?_⟩⟩⟩
  have n9 : ∀ p, p ≠ 33 → p ≠ 36 → p ≠ 37 → E9 p = E p := fun p h1 h2 h3 => by rw [e9, pUp_an h2, e8, pUp_an h3, e7, pUp_an h3, n36 p h2, n33 p h1]
  have y9 : E9 y = E y := n9 y (by omega) (by omega) (by omega)
  refine c_setTuple_81 (c := c) hK hF1 hx (by rw [f1, pUp_a nx]; exact hy) ky (by omega) b0.1 b0.2 (c 0).toNat 0 E9 (fun k k0 k1 => by rw [y9]; exact rd k k0 k1) (by omega) (by decide) (fun o o0 o1 => absurd o1 (by omega)) fun E' r' t' => ?_
  have n' : ∀ p, p ≠ 33 → p ≠ 36 → p ≠ 37 → p ≠ 38 → E' p = E p := fun p h1 h2 h3 h4 => by rw [r' p h4, n9 p h1 h2 h3]
  have w33 : E' 33 = E5 33 := by rw [r' 33 (by decide), e9, pUp_an (by decide), e8, pUp_an (by decide), e7, pUp_an (by decide), n36 33 (by decide)]
  have fw : FrW F E (pUp (pUp (pUp (pUp (pUp (pUp F1 30 6 0) 30 12 0) 30 13 0) 30 14 0) 30 15 0) 30 16 0) E' := by
    rw [f1]
    exact ⟨fun p h1 h2 h3 h4 h5 _ _ => n' p h2 h3 h4 h5, ((((((hF.up (by decide +kernel)).up (by decide +kernel)).up (by decide +kernel)).up (by decide +kernel)).up (by decide +kernel)).up (by decide +kernel)).up (by decide +kernel), fun p k hp => by rw [pUp_a hp, pUp_a hp, pUp_a hp, pUp_a hp, pUp_a hp, pUp_a hp, pUp_a hp]⟩
  refine hQ _ E' fw ⟨⟨hK, fw.2.1⟩, ⟨?_, hx, (fw.2.2 x 0 nx).trans hy, ky, nx, ny⟩, ?_, ⟨?_, hl.2⟩, ?_, ⟨hog.1, ?_⟩, bB_ok hC hr ha hb m0, ?_, ?_, ?_, ?_, ?_⟩ ⟨fun p p0 p1 _ => ?_, fun p p0 p1 pp f f0 f1 => ?_, fun o o0 o1 => ?_, fun i i0 i1 _ => absurd (show i < 0 * 3 from i1) (by omega), fun i i0 i1 _ => absurd (show i < 0 from i1) (by omega), ?_, ?_, ?_, ?_, ?_, ?_⟩
  · simp only [f1, pUp1, rUpA, Int.reduceEq, reduceIte]
  · rw [n' y (by omega) (by omega) (by omega) (by omega)]; exact ⟨hc, hC⟩
  · have e3' : pUp (pUp (pUp (pUp (pUp (pUp F1 30 6 0) 30 12 0) 30 13 0) 30 14 0) 30 15 0) 30 16 0 30 3 = F 30 3 := by simp only [f1, pUp1, rUpA, Int.reduceEq, reduceIte]
    rw [e3']
    exact hl.1.imp id (fun ⟨L', e, q⟩ => ⟨L', e, q.keep (fun a ha => funext fun k => fw.2.2 a k (by omega)) (fun a ha => n' a (by omega) (by omega) (by omega) (by omega))⟩)
  · simp only [f1, pUp1, rUpA, Int.reduceEq, reduceIte]; exact hbud
  · have e4' : pUp (pUp (pUp (pUp (pUp (pUp F1 30 6 0) 30 12 0) 30 13 0) 30 14 0) 30 15 0) 30 16 0 30 4 = F 30 4 := by simp only [f1, pUp1, rUpA, Int.reduceEq, reduceIte]
    rw [e4', n' 51 (by decide) (by decide) (by decide) (by decide)]
    exact hog.2
  · rw [w33, e5, pUp_k (by decide), e4, pUp_k (by decide), e3, pUp_k (by decide), e2, pUp_s]; rfl
  · rw [w33, e5, pUp_k (by decide), e4, pUp_k (by decide), e3, pUp_s]; rfl
  · rw [w33, e5, pUp_k (by decide), e4, pUp_s]; rfl
  · rw [w33, e5, pUp_k (by decide), e4, pUp_k (by decide), e3, pUp_k (by decide), e2, pUp_k (by decide)]; exact hm
  · rw [w33, e5, pUp_s]; rfl
  · rw [r' 36 (by decide), e9]
    unfold stI
    by_cases e : p = r
    · rw [e, pUp_s, if_pos rfl]
    · rw [pUp_k e, if_neg e, e8, pUp_a (by decide), e7, pUp_a (by decide)]; exact v36 p p0 p1
  · have pr : p = r := by
      unfold stI at pp
      by_cases e : p = r
      · exact e
      · rw [if_neg e] at pp; omega
    subst pr
    unfold fdI hdS
    rw [r' 37 (by decide), e9, pUp_a (by decide), e8]
    rcases (show f = 0 ∨ f = 1 by omega) with ef | ef <;> subst ef
    · rw [pUp_k (by omega), rUp_n (by omega), e7, show p * 2 + 0 = p * 2 by omega, pUp_s, rUp_s]
    · rw [pUp_s, rUp_s]
  · rw [t' o o0 o1]
    show _ = (if 0 ≤ o ∧ o < c 0 then c (12 + o * 6 + 5) else 0)
    rw [if_pos ⟨o0, o1⟩]
  all_goals simp only [sI, pUp1, rUpA, Int.reduceEq, reduceIte]
/-- the way itself -/
theorem c_way {d : Nat} {F E : Int → Int → Int} (hd : 24 ≤ d) (h : CtxC K F E x y c L bud og fx (bB c r a b mood)) (hr : RepC F E (c 0) (stI c r) (fdI r a b) (sI c) 0) (ha : 0 ≤ a ∧ a < 10) (hb : 0 ≤ b ∧ b < 10) (hQ : ∀ F' E', FrC F E F' E' → RepC F' E' (c 0) (stI c r) (fdI r a b) (comS c L mood bud og fx r a b) 0 → Q none (n, K, F', E')) : PC l G d mX6_pass bg [(2, 30), (0, 0), (0, 0)] (n, K, F, E) Q := by
  have hC := h.2.2.1.2
  have b0 := hC.1
  have xl := Xb_le (k := (c 0).toNat) (by omega)
  exact pass_all (c 0).toNat d bg Q F E 0 0 0 (stI c r) (fdI r a b) (sI c) 19980000 0 (by omega) h hr (ptI hC ha hb) (sI_bd hC) (by omega) (by omega) (by decide) (by decide) (by decide) (by omega) (by decide) (by decide) (by decide) (by omega) hQ
end C
