/-! ORDERS in the reference: one order, once -/
def FrRu (F E F' E' : Int → Int → Int) : Prop := (∀ r, r ≠ 68 → r ≠ 71 → r ≠ 72 → (r < 84 ∨ 95 < r) → E' r = E r) ∧ FS F' ∧ (∀ a k, ¬ (a = 66 ∧ (k = 8 ∨ k = 34 ∨ k = 38 ∨ k = 39 ∨ k = 40 ∨ k = 47 ∨ k = 49 ∨ k = 50 ∨ k = 51 ∨ k = 52 ∨ k = 53 ∨ k = 56 ∨ k = 68 ∨ k = 69 ∨ k = 71)) → F' a k = F a k) ∧ UnOk (E 71) (E' 71) ∧ ∀ j, (j < 6 ∨ 123 ≤ j) → E' 68 j = E 68 j
theorem FrRu.refl {F E : Int → Int → Int} (h : FS F) : FrRu F E F E := ⟨fun _ _ _ _ _ => rfl, h, fun _ _ _ => rfl, fun _ _ _ => rfl, fun _ _ => rfl⟩
theorem FrRu.trans {F E F' E' F'' E'' : Int → Int → Int} (h : FrRu F E F' E') (h' : FrRu F' E' F'' E'') : FrRu F E F'' E'' := ⟨fun r a b c d => (h'.1 r a b c d).trans (h.1 r a b c d), h'.2.1, fun a k q => (h'.2.2.1 a k q).trans (h.2.2.1 a k q), fun j a b => (h'.2.2.2.1 j a b).trans (h.2.2.2.1 j a b), fun j a => (h'.2.2.2.2 j a).trans (h.2.2.2.2 j a)⟩
theorem FrRu.up {F E F' E' : Int → Int → Int} {k v : Int} (h : FrRu F E F' E') (hk : k = 68 ∨ k = 69 ∨ k = 71) : FrRu F E (pUp F' 66 k v) E' := by
  refine ⟨h.1, ?_, fun a j q => ?_, h.2.2.2⟩
  · rcases hk with e | e | e <;> subst e <;> exact h.2.1.up (by decide)
  · unfold pUp; rw [if_neg (by omega)]; exact h.2.2.1 a j q
theorem FrO.ru {F E F' E' : Int → Int → Int} (h : FrO F E F' E') (h72 : F' 66 72 = F 66 72) (h68 : ∀ j, (j < 6 ∨ 123 ≤ j) → E' 68 j = E 68 j) : FrRu F E F' E' := ⟨fun r a b c d => h.1 r a b c (by omega) (by omega), h.2.1, fun a k q => by
  by_cases z : a = 66 ∧ k = 72
  · rw [z.1, z.2]; exact h72
  · exact h.2.2.1 a k (by omega), h.2.2.2, h68⟩
/-- within a sum -/
def FrSm (F E F' E' : Int → Int → Int) : Prop := (∀ r, r ≠ 86 → E' r = E r) ∧ FS F' ∧ ∀ a k, ¬ (a = 66 ∧ (k = 38 ∨ k = 39 ∨ k = 71)) → F' a k = F a k
theorem FrSm.refl {F E : Int → Int → Int} (h : FS F) : FrSm F E F E := ⟨fun _ _ => rfl, h, fun _ _ _ => rfl⟩
theorem FrSm.trans {F E F' E' F'' E'' : Int → Int → Int} (h : FrSm F E F' E') (h' : FrSm F' E' F'' E'') : FrSm F E F'' E'' := ⟨fun r a => (h'.1 r a).trans (h.1 r a), h'.2.1, fun a k q => (h'.2.2 a k q).trans (h.2.2 a k q)⟩
theorem FrSm.ru {F E F' E' : Int → Int → Int} (h : FrSm F E F' E') : FrRu F E F' E' := ⟨fun r _ _ _ d => h.1 r (by omega), h.2.1, fun a k q => h.2.2 a k (by omega), fun j _ _ => by rw [h.1 71 (by decide)], fun j _ => by rw [h.1 68 (by decide)]⟩
section R
variable {l : Launch} {G : pG} {bg : Nat × Nat} {n : Nat} {K : Int → Nat × Nat} {F E : Int → Int → Int} {Q : Option pV → pM → Prop}
theorem r_sumOf_49 (hK : KS K) (c2 : F 66 38 = 0 ∨ F 66 38 = 1) (h : ∀ F1, F1 = pUp (pUp F 66 20 0) 66 71 (F 66 38) → Q (some (0, w32 (F 66 39))) (n, K, F1, E)) : PW l G 3 mX12_sumOf bg 49 [(0, (2, 66))] [] (n, K, F, E) Q := by
  have c1 : (K 66).1 = 12 := by rw [hK.k66]
  refine s_aload_n (q := 50) 31 0 rfl rfl ?_
  refine s_iconst (q := 51) 32 rfl ?_
  refine n_putf (q := 54) (jj := 20) 33 12 20 rfl kX12_329 c1 (Or.inr (Or.inr (Or.inl ⟨rfl, (by decide)⟩))) ?_
  refine PW.nameF (fun F1 eF1 => ?_)
  refine s_aload_n (q := 55) 34 0 rfl rfl ?_
  refine s_aload_n (q := 56) 35 0 rfl rfl ?_
  refine n_getf (q := 59) (jj := 38) 36 12 38 rfl kX12_403 c1 ?_
  refine PW.top (b := F 66 38) (by exact (congrFun (congrFun eF1 _) _).trans (pUp_k (by decide))) ?_
  refine n_putf (q := 62) (jj := 71) 37 12 71 rfl kX12_586 c1 (Or.inr (Or.inr (Or.inl ⟨rfl, c2⟩))) ?_
  refine PW.nameF (fun F2 eF2 => ?_)
  refine s_aload_n (q := 63) 38 0 rfl rfl ?_
  refine n_getf (q := 66) (jj := 39) 39 12 39 rfl kX12_419 c1 ?_
  refine PW.top (b := F 66 39) (by refine (congrFun (congrFun eF2 _) _).trans ((pUp_k (by decide)).trans ?_); exact (congrFun (congrFun eF1 _) _).trans (pUp_k (by decide))) ?_
  refine s_l2i (q := 67) 40 rfl ?_
  exact s_iret 41 rfl rfl (h F2 (by rw [eF2, eF1]))
/-- a sum of an order -/
theorem r_sumOf {a p q : Int} {f : tPhi} {W : Int → Int} (a0 : 0 ≤ a) (a1 : a + 1 < 120) (hK : KS K) (hF : FS F) (h71 : F 66 71 = 0) (h20 : F 66 20 = 0) (ep : E 103 a = p) (eq : E 103 (a + 1) = q) (pq : 0 ≤ p ∧ p < q ∧ q ≤ 400) (sg : SegR 1 (E 77) (E 78) p q f 60 12) (he : EnvR 1 E W) (hw : WOk W 12) (ph : PhOk f 12)
    (hQ0 : f W = none → ∀ F' E' v, FrSm F E F' E' → F' 66 71 = 1 → Q (some (0, v)) (n, K, F', E')) (hQ1 : ∀ v, f W = some v → ∀ F' E', FrSm F E F' E' → F' 66 71 = 0 → Q (some (0, v)) (n, K, F', E')) : PC l G 3 mX12_sumOf bg [(2, 66), (0, a)] (n, K, F, E) Q := by
  refine vX12_sumOf_0 66 a ?_
  simp only [hF.f66_67, hK.k66, hK.k103, h71, ep, eq]
  refine ⟨trivial, fun z => absurd trivial z, fun _ => ⟨trivial, by omega, by omega, by omega, fun _ F1 f1 => ?_, fun z => absurd z (by omega)⟩⟩
  have hF1 : FS F1 := by rw [f1]; exact hF.up (by decide)
  refine r_reckonAll (o := 1) (m := 60) (W := W) hK hF1 sg (by decide) ⟨⟨by omega, by omega⟩, Or.inr ⟨rfl, by rw [f1, pUp_s], fun _ _ _ => ⟨rfl, rfl⟩⟩⟩ he hw fun E2 u v n2 hv => ?_
  have g : ∀ a k, ¬ (a = 66 ∧ (k = 38 ∨ k = 39 ∨ k = 71)) → pUp (pUp (pUp (pUp F1 66 38 u) 66 39 v) 66 20 0) 66 71 u a k = F a k := fun a k q' => by
    rw [f1]
    unfold pUp
    by_cases z : a = 66 ∧ k = 20
    · rw [if_neg (by omega), if_pos z, z.1, z.2, h20]
    · rw [if_neg (by omega), if_neg z, if_neg (by omega), if_neg (by omega), if_neg z]
  have e38 : pUp (pUp F1 66 38 u) 66 39 v 66 38 = u := by rw [pUp_k (by decide), pUp_s]
  have e39 : pUp (pUp F1 66 38 u) 66 39 v 66 39 = v := pUp_s
  refine r_sumOf_49 hK (by rw [e38]; rcases hv with h | h <;> omega) fun F3 f3 => ?_
  rw [e38] at f3
  rw [e39]
  have wF : FrSm F E F3 E2 := ⟨n2, by rw [f3]; exact (((hF1.up (by decide)).up (by decide)).up (by decide)).up (by decide), fun a k q' => by rw [f3]; exact g a k q'⟩
  have e71 : F3 66 71 = u := by rw [f3, pUp_s]
  rcases hv with ⟨h1, h2⟩ | ⟨h1, h2⟩
  · have r := ph W v hw h1
    rw [w32_id (by omega) (by omega)]
    exact hQ1 v h1 F3 E2 wF (by rw [e71, h2])
  · exact hQ0 h1 F3 E2 _ wF (by rw [e71, h2])
theorem r_sumOff {a : Int} (hK : KS K) (h71 : F 66 71 = 1) (hQ : Q (some (0, -1)) (n, K, F, E)) : PC l G 3 mX12_sumOf bg [(2, 66), (0, a)] (n, K, F, E) Q :=
  vX12_sumOf_0 66 a ⟨by rw [hK.k66], fun _ => hQ, fun z => absurd z (by omega)⟩
theorem r_sumNone {a : Int} (a0 : 0 ≤ a) (a1 : a + 1 < 120) (hK : KS K) (hF : FS F) (h71 : F 66 71 = 0) (e : E 103 a = E 103 (a + 1)) (hQ : Q (some (0, -1)) (n, K, F, E)) : PC l G 3 mX12_sumOf bg [(2, 66), (0, a)] (n, K, F, E) Q := by
  refine vX12_sumOf_0 66 a ?_
  simp only [hF.f66_67, hK.k66, hK.k103, h71]
  exact ⟨trivial, fun z => absurd trivial z, fun _ => ⟨trivial, by omega, by omega, by omega, fun z => absurd e z, fun _ => hQ⟩⟩
/-- the reference's orders under way -/
def RO (g : Int → Int) (F E : Int → Int → Int) (s : tOr) : Prop := RowOk g (E 68) s.1 ∧ lgR (F 66 8) (E 72) (E 71) = s.2.1 ∧ (0 ≤ F 66 8 ∧ F 66 8 ≤ 16) ∧ F 66 68 = s.2.2.1 ∧ F 66 69 = s.2.2.2 ∧ F 66 20 = 0
/-- the i-th sum, whatever there is -/
theorem r_sumI {N : Nat} {i e : Int} {x : tKl} {s : tOr} (n12 : N < 12) (i0 : 0 ≤ i) (i3 : i < 3) (hK : KS K) (hF : FS F) (h20 : F 66 20 = 0) (kl : KlO (E 103) (E 77) (E 78) e N x) (ph : ∀ j, 0 ≤ j → j < 3 → j < nSm false x.1 → PhOk (x.2.2.2 j) 12) (he : EnvR 1 E (wO s)) (hw : WOk (wO s) 12)
    (h71 : F 66 71 = 0 ∨ F 66 71 = 1)
    (hQ0 : (F 66 71 = 1 ∨ (i < nSm false x.1 ∧ x.2.2.2 i (wO s) = none)) → ∀ F' E' v, FrSm F E F' E' → F' 66 71 = 1 → Q (some (0, v)) (n, K, F', E'))
    (hQ1 : F 66 71 = 0 → (i < nSm false x.1 → x.2.2.2 i (wO s) ≠ none) → ∀ v, (i < nSm false x.1 → v = oVal x s i) → ∀ F' E', FrSm F E F' E' → F' 66 71 = 0 → Q (some (0, v)) (n, K, F', E')) : PC l G 3 mX12_sumOf bg [(2, 66), (0, 10 * (N : Int) + sA i)] (n, K, F, E) Q := by
  have sr := sA_rng (i := i)
  rcases h71 with h71 | h71
  · obtain ⟨_, _, k3, _, k5⟩ := kl
    have ki := k5 i i0 i3
    by_cases il : i < nSm false x.1
    · obtain ⟨u1, u2⟩ := ki.1 il
      refine r_sumOf (by omega) (by omega) hK hF h71 h20 rfl rfl ⟨u1.1, u1.2.1, by omega⟩ u2 he hw (ph i i0 i3 il) (fun z => hQ0 (Or.inr ⟨il, z⟩)) (fun v z F' E' w e71 => hQ1 h71 (fun _ q => by rw [z] at q; cases q) v (fun _ => ?_) F' E' w e71)
      unfold oVal
      rw [z]
      rfl
    · exact r_sumNone (by omega) (by omega) hK hF h71 (ki.2 (by omega)) (hQ1 h71 (fun y => absurd y il) (-1) (fun y => absurd y il) F E (FrSm.refl hF) h71)
  · exact r_sumOff hK h71 (hQ0 (Or.inl h71) F E (-1) (FrSm.refl hF) h71)
end R
