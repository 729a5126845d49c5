/-! A WHOLE WAY in the reference -/
def FrV (F E F' E' : Int → Int → Int) : Prop := (∀ r, r ≠ 84 → (r < 86 ∨ 95 < r) → E' r = E r) ∧ FS F' ∧ ∀ a k, ¬ (a = 66 ∧ (k = 34 ∨ k = 38 ∨ k = 39 ∨ k = 40 ∨ k = 47 ∨ k = 49 ∨ k = 50 ∨ k = 51 ∨ k = 52 ∨ k = 53)) → F' a k = F a k
theorem FrV.refl {F E : Int → Int → Int} (h : FS F) : FrV F E F E := ⟨fun _ _ _ => rfl, h, fun _ _ _ => rfl⟩
theorem FrV.trans {F E F' E' F'' E'' : Int → Int → Int} (h : FrV F E F' E') (h' : FrV F' E' F'' E'') : FrV F E F'' E'' := ⟨fun r a b => (h'.1 r a b).trans (h.1 r a b), h'.2.1, fun a k q => (h'.2.2 a k q).trans (h.2.2 a k q)⟩
theorem FrR.v {f : Int} {F E F' E' : Int → Int → Int} (h : FrR f F E F' E') : FrV F E F' E' := ⟨fun r h1 h2 => h.1 r h1 (by omega) (by omega) (by omega) (by omega) (by omega) (by omega) (by omega) (by omega) (by omega), h.2.2.2.1, fun a k q => h.2.2.2.2 a k (by omega)⟩
theorem F4.v {F F' E E' : Int → Int → Int} (h : F4 F F') (hE : ∀ r, r ≠ 84 → r ≠ 86 → E' r = E r) : FrV F E F' E' := ⟨fun r h1 h2 => hE r h1 (by omega), h.1, fun a k q => h.2 a k (by omega)⟩
section R
variable {l : Launch} {G : pG} {bg : Nat × Nat} {n : Nat} {K : Int → Nat × Nat} {Q : Option pV → pM → Prop} {c : Int → Int} {L : Option tLaw} {bud mood : Int} {og : Int → Int} {fx : Bool} {r a b : Int}
theorem r_comes_55 {F : Int → Int → Int} (hK : KS K) (hF : FS F) (N0 : 0 ≤ c 0) (N4 : c 0 ≤ 4) (w : Nat) : ∀ (i : Int) (E : Int → Int → Int), cz (sh6 (E 68)) = c → i + w = c 0 → 0 ≤ i → (∀ o, 0 ≤ o → o < i → E 92 o = c (12 + o * 6 + 5)) → (∀ E', (∀ r, r ≠ 92 → E' r = E r) → (∀ o, 0 ≤ o → o < c 0 → E' 92 o = c (12 + o * 6 + 5)) → PW l G 6 mX12_comes bg 95 [(0, (2, 66)), (1, (0, r)), (4, (0, bud)), (5, (0, 0))] [] (n, K, F, E') Q) → PW l G 6 mX12_comes bg 55 [(0, (2, 66)), (1, (0, r)), (4, (0, bud)), (5, (0, i))] [] (n, K, F, E) Q := by
  induction w with
  | zero =>
    intro i E hc e i0 hi hQ
    have r0 : E 68 6 = c 0 := by rw [← hc, czs_at (j := 6) (by decide) (by decide) (by decide)]
    refine vX12_comes_55 66 r bud i ?_
    simp only [hF.f66_3, hK.k66, hK.k68, r0]
    exact ⟨trivial, trivial, by decide, fun _ => hQ E (fun _ _ => rfl) (fun o o0 o1 => hi o o0 (by omega)), fun z => absurd (by omega) z⟩
  | succ w ih =>
    intro i E hc e i0 hi hQ
    have r0 : E 68 6 = c 0 := by rw [← hc, czs_at (j := 6) (by decide) (by decide) (by decide)]
    have r5 : E 68 (18 + 6 * i + 5) = c (12 + i * 6 + 5) := by rw [← hc, czs_at (j := 18 + 6 * i + 5) (by omega) (by omega) (by omega)]
    refine vX12_comes_55 66 r bud i ?_
    simp only [hF.f66_3, hF.f66_46, hK.k66, hK.k68, hK.k92, r0, r5]
    refine ⟨trivial, trivial, by decide, fun z => absurd z (by omega), fun _ => ⟨by omega, by omega, by omega, by omega, by decide, trivial, by omega, fun E1 e1 => ⟨by omega, ?_⟩⟩⟩
    refine ih (i + 1) E1 (by rw [e1, pUp_an (by decide)]; exact hc) (by omega) (by omega) (fun o o0 o1 => ?_) fun E' r' t' => hQ E' (fun p hp => by rw [r' p hp, e1, pUp_an hp]) t'
    rw [e1]
    by_cases q : o = i
    · rw [q, pUp_s]
    · rw [pUp_k q]; exact hi o o0 (by omega)
/-- all that comes of a tuple -/
theorem r_comes {F E : Int → Int → Int} (hK : KS K) (hF : FS F) (hc : cz (sh6 (E 68)) = c) (hC : CInv c) (hl : F 66 20 = 0 ∧ LawF (E 68) L ∧ LwOk L) (hog : OgOk c og fx ∧ ((fx = false ∧ F 66 56 = 0) ∨ (fx = true ∧ F 66 56 = 1 ∧ ∀ i, 0 ≤ i → i < c 0 → E 96 i = og i))) (hm : E 68 5 = mood) (m0 : 0 ≤ mood ∧ mood ≤ 9) (hr : 0 ≤ r ∧ r < 3) (ha : 0 ≤ a ∧ a < 10) (hb : 0 ≤ b ∧ b < 10)
    (hQ : ∀ F' E' v, FrV F E F' E' → RepR F' E' (c 0) (comS c L mood bud og fx r a b) → ((comS c L mood bud og fx r a b).2.2.2 4 = 0 ∧ v = 1) ∨ ((comS c L mood bud og fx r a b).2.2.2 4 = 1 ∧ v = 0) → Q (some (0, v)) (n, K, F', E')) : PC l G 6 mX12_comes bg [(2, 66), (0, r), (0, a), (0, b), (0, bud)] (n, K, F, E) Q := by
  have bN := hC.1
  have b1 := hC.2.1
  have xl := Xb_le (k := (c 0).toNat) (by omega)
  have rd7 : E 68 7 = c 1 := by rw [← hc, czs_at (j := 7) (by decide) (by decide) (by decide)]
  refine vX12_comes_0 66 r a b bud ?_
  simp only [hF.f66_3, hF.f66_48, hK.k66, hK.k68, hK.k93]
  refine ⟨trivial, fun F1 f1 => ⟨by decide, trivial, by decide, fun E2 e2 => ⟨by decide, fun E3 e3 => ?_⟩⟩⟩
  have n3 : ∀ p, p ≠ 93 → E3 p = E p := fun p hp => by rw [e3, pUp_an hp, e2, pUp_an hp]
  rw [n3 68 (by decide), rd7]
  refine ⟨trivial, by decide, by omega, fun F4 f4 F5 f5 F6 f6 F7 f7 F8 f8 => ?_⟩
  have hF8 : FS F8 := by
    rw [f8, f7, f6, f5, f4, f1]
    exact (((((hF.up (by decide +kernel)).up (by decide +kernel)).up (by decide +kernel)).up (by decide +kernel)).up (by decide +kernel)).up (by decide +kernel)
  have k8 : ∀ p k, ¬ (p = 66 ∧ (k = 47 ∨ k = 49 ∨ k = 50 ∨ k = 51 ∨ k = 52 ∨ k = 53)) → F8 p k = F p k := fun p k q => by
    rw [f8, f7, f6, f5, f4, f1]
    unfold pUp
    rw [if_neg (by omega), if_neg (by omega), if_neg (by omega), if_neg (by omega), if_neg (by omega), if_neg (by omega)]
  refine r_comes_55 (c := c) hK hF8 bN.1 bN.2 (c 0).toNat 0 E3 (by rw [n3 68 (by decide)]; exact hc) (by omega) (by decide) (fun o o0 o1 => absurd o1 (by omega)) fun E9 r9 t9 => ?_
  have e49 : F8 66 49 = c 1 + 1 := by
    rw [f8, f7, f6, f5, f4, pUp_k (by decide), pUp_k (by decide), pUp_k (by decide), pUp_k (by decide), pUp_s]
  have st : ∀ (i : Int) (E : Int → Int → Int), 0 ≤ i → i < 3 → PW l G 6 mX12_comes bg 95 [(0, (2, 66)), (1, (0, r)), (4, (0, bud)), (5, (0, i + 1))] [] (n, K, F8, pUp E 87 i (stI c r i)) Q → PW l G 6 mX12_comes bg 95 [(0, (2, 66)), (1, (0, r)), (4, (0, bud)), (5, (0, i))] [] (n, K, F8, E) Q := fun i E i0 i1 q => by
    refine vX12_comes_95 66 r bud i ⟨fun z => absurd z (by omega), fun _ => ?_⟩
    simp only [hF8.f66_41, hK.k66, hK.k87, e49]
    unfold stI at q
    refine ⟨trivial, fun z => ⟨by decide, trivial, by omega, fun E2 e2 => ⟨by omega, ?_⟩⟩, fun z => ⟨by decide, trivial, by omega, fun E2 e2 => ⟨by omega, ?_⟩⟩⟩
    · rw [e2]; rw [if_neg z] at q; exact q
    · rw [e2]; rw [if_pos z] at q; exact q
  refine st 0 E9 (by decide) (by decide) (st (0 + 1) _ (by decide) (by decide) (st (0 + 1 + 1) _ (by decide) (by decide) ?_))
  generalize e6 : pUp (pUp (pUp E9 87 0 (stI c r 0)) 87 (0 + 1) (stI c r (0 + 1))) 87 (0 + 1 + 1) (stI c r (0 + 1 + 1)) = E6
  have n6 : ∀ p, p ≠ 87 → E6 p = E9 p := fun p hp => by rw [← e6, pUp_an hp, pUp_an hp, pUp_an hp]
  have v6 : ∀ p, 0 ≤ p → p < 3 → E6 87 p = stI c r p := fun p p0 p1 => by
    rw [← e6]
    rcases (show p = 0 ∨ p = 1 ∨ p = 2 by omega) with e | e | e <;> subst e
    · rw [pUp_k (by decide), pUp_k (by decide), pUp_s]
    · rw [pUp_k (by decide)]; exact pUp_s
    · exact pUp_s
  refine vX12_comes_95 66 r bud (0 + 1 + 1 + 1) ⟨fun _ => ?_, fun z => absurd (by decide) z⟩
  simp only [hF8.f66_42, hK.k66, hK.k88]
  refine ⟨trivial, by decide, trivial, by decide, fun E7 e7 => ?_⟩
  have n7 : ∀ p, p ≠ 87 → p ≠ 88 → p ≠ 92 → p ≠ 93 → E7 p = E p := fun p h1 h2 h3 h4 => by rw [e7, pUp_an h2, n6 p h1, r9 p h3, n3 p h4]
  have s93 : E7 93 = E3 93 := by rw [e7, pUp_an (by decide), n6 93 (by decide), r9 93 (by decide)]
  have fv0 : FrV F E F8 E7 := ⟨fun p h1 h2 => n7 p (by omega) (by omega) (by omega) (by omega), hF8, fun p k q => k8 p k (by omega)⟩
  have cx : CtxR K F8 E7 c L og fx (bB c r a b mood) r a b := by
    unfold CtxR
    rw [n7 68 (by decide) (by decide) (by decide) (by decide), n7 96 (by decide) (by decide) (by decide) (by decide), s93, k8 66 20 (by omega), k8 66 56 (by omega), e49]
    refine ⟨⟨hK, hF8⟩, ⟨hc, hC⟩, hl, hog, ⟨?_, rfl, ?_, ?_⟩, ⟨hr, ha, hb⟩, bB_ok hC hr ha hb m0, rfl, rfl, rfl, hm.symm, rfl⟩
    · rw [f8, f7, f6, f5, f4, f1, pUp_k (by decide), pUp_k (by decide), pUp_k (by decide), pUp_k (by decide), pUp_k (by decide), pUp_s]
    · rw [e3, pUp_k (by decide), e2, pUp_s]
    · rw [e3, pUp_s]
  have rp : RepR F8 E7 (c 0) (sI c) := by
    refine ⟨fun o o0 o1 => ?_, fun i i0 i1 _ => absurd (show i < 0 * 3 from i1) (by omega), fun i i0 i1 _ => absurd (show i < 0 from i1) (by omega), fun _ => ?_, ?_, ?_, ?_⟩
    · rw [e7, pUp_a (by decide), n6 92 (by decide), t9 o o0 o1]
      show _ = (if 0 ≤ o ∧ o < c 0 then c (12 + o * 6 + 5) else 0)
      rw [if_pos ⟨o0, o1⟩]
    all_goals simp only [f8, f7, f6, f5, pUp1, rUpA, Int.reduceEq, reduceIte, sI]
  have bs := bShl_rng bN.1 bN.2
  refine adv_all (c 0).toNat bg Q 0 0 0 (stI c r) (fdI r a b) (sI c) F8 E7 19980000 0 (by decide) cx (stokI hC) (by rw [missI hC hr]; decide) ⟨fun p p0 p1 => ?_, ?_⟩ rp (sI_bd hC) (by omega) (by omega) (by decide) (by decide) rfl (by decide) (by omega) (by decide) (by decide) (by omega) (fun F' E' f' r' x' => ?_) (fun F' E' f' r' x' => ?_)
  · rw [show 3 * 0 + p = p by omega, e7, pUp_a (by decide)]; exact v6 p p0 p1
  · rw [e7, pUp_s]
  · refine vX12_comes_201 66 bud (0 - 1) ⟨fun _ => ⟨fun z => absurd z (by decide), fun _ => ?_⟩, fun z => absurd (by decide) z⟩
    exact vX12_comes_138 66 bud (-1) ⟨fun _ => hQ F' E' 1 (fv0.trans f'.v) r' (Or.inl ⟨x', rfl⟩), fun z => absurd (by decide) z⟩
  · exact vX12_comes_165 66 (0 - 1) ⟨fun _ => hQ F' E' 0 (fv0.trans f'.v) r' (Or.inr ⟨x', rfl⟩), fun z => absurd (by decide) z⟩
end R
