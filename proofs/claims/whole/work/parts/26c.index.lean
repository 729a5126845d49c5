/-! THE PAIR bestIndex -/
theorem LwC.keep {K : Int → Nat × Nat} {F E F' E' : Int → Int → Int} {L : Option tLaw} (h : LwC K F E L) (hp : FrP F E F' E') : LwC K F' E' L := by
  refine ⟨?_, h.2⟩
  have e7 : E' 7 = E 7 := hp.1 7 (by decide) (by decide) (by decide) (by decide) (by decide) (by decide) (by decide) (by decide) (by decide)
  rw [hp.2.2 1 7 (by decide) (by omega), hp.2.2 1 6 (by decide) (by omega), e7]
  exact h.1.imp id (fun ⟨L', e, q, w⟩ => ⟨L', e, q, w.keep (fun a ha => funext fun k => hp.2.2 a k (by omega) (by omega)) (fun a ha => hp.1 a (by omega) (by omega) (by omega) (by omega) (by omega) (by omega) (by omega) (by omega) (by omega))⟩)
theorem LawF.congr {g g' : Int → Int} {L : Option tLaw} (h : LawF g L) (e : ∀ j, (j < 6 ∨ 123 ≤ j) → g' j = g j) : LawF g' L := by
  have e2 := e 2 (by decide)
  rcases h with ⟨q1, q2⟩ | ⟨L', q1, q2, q3, q4, q5⟩
  · exact Or.inl ⟨q1, e2.trans q2⟩
  · refine Or.inr ⟨L', q1, by rw [e2]; exact q2, ?_, q4, q5⟩
    rw [e2]
    refine q3.congr q4 fun j j0 j1 => ?_
    exact e _ (by omega)
theorem FrP.row68 {F E E2 F3 E3 : Int → Int → Int} {g : Int → Int} (h : FrP F E2 F3 E3) (hE : ∀ p, p ≠ 68 → E2 p = E p) : FrP F (pRow E 68 g) F3 (pRow E3 68 g) := by
  refine ⟨fun p h1 h2 h3 h4 h5 h6 h7 h8 h9 => ?_, h.2⟩
  by_cases q : p = 68
  · subst q; rw [pRow_at, pRow_at]
  · rw [pRow_ne q, pRow_ne q, h.1 p h1 h2 h3 h4 h5 h6 h7 h8 h9, hE p q]
theorem cIdx_cIdx {c : Int → Int} {r i v : Int} : cIdx (cIdx c r i) r v = cIdx c r v := by
  funext k
  unfold cIdx
  by_cases e : k = 6 + r
  · subst e; rw [rUp_s, rUp_s]
  · rw [rUp_n e, rUp_n e, rUp_n e]
noncomputable def qIx (c : Int → Int) (L : Option tLaw) (mood of r a b i : Int) : Int := (papS (cIdx c of i) L mood (fun i => i) false r a b).2.2.2 0
section C
variable {l : Launch} {G : pG} {bg : Nat × Nat} {n : Nat} {K : Int → Nat × Nat} {F E : Int → Int → Int} {Q : Option pV → pM → Prop} {L : Option tLaw} {of r a b mood bst lst i : Int} {c : Int → Int}
theorem c_bestIndex_44 (hK : KS K) (hF : FS F) (hs : ∀ v, cIdx (cz (E 17)) of v = cIdx c of v) (hC : CInv c) (hl : LwC K F E L) (hm : E 4 2 = mood) (m0 : 0 ≤ mood ∧ mood ≤ 9) (z0 : 0 ≤ of ∧ of < 3) (zr : 0 ≤ r ∧ r < 3) (za : 0 ≤ a ∧ a < 10) (zb : 0 ≤ b ∧ b < 10) (i0 : 0 ≤ i) (i2 : i ≤ 2)
    (hQ : ∀ F' E', FrP F E F' E' → (∀ v, cIdx (cz (E' 17)) of v = cIdx c of v) → PW l G 32 mX11_bestIndex bg 44 [(0, (2, 0)), (1, (0, of)), (2, (0, r)), (3, (0, a)), (4, (0, b)), (5, (0, if lst ≤ qIx c L mood of r a b i then bst else i)), (6, (0, if lst ≤ qIx c L mood of r a b i then lst else qIx c L mood of r a b i)), (7, (0, i + 1))] [] (n, K, F', E') Q) :
    PW l G 32 mX11_bestIndex bg 44 [(0, (2, 0)), (1, (0, of)), (2, (0, r)), (3, (0, a)), (4, (0, b)), (5, (0, bst)), (6, (0, lst)), (7, (0, i))] [] (n, K, F, E) Q := by
  refine vX11_bestIndex_44 0 of r a b bst lst i ?_
  simp only [hF.f0_0, hF.f0_5, hF.f16_0, hK.k0, hK.k1, hK.k16, hK.k17]
  refine ⟨fun z => absurd z (by omega), fun _ => ⟨trivial, trivial, by omega, by decide, trivial, by omega, fun E1 e1 => ⟨trivial, ?_⟩⟩⟩
  have p1 : FrP F E F E1 := ⟨fun p h1 _ _ _ _ _ _ _ _ => by rw [e1, pUp_an h1], hF, fun _ _ _ _ => rfl⟩
  have hl1 := hl.keep p1
  have c1 : cz (E1 17) = cIdx c of i := by
    rw [← hs i, e1, pUp1, if_pos rfl, cz_up (by omega) (by omega)]
    rfl
  refine c_lawInForce hK hF hl1 fun t ht => ?_
  refine vX11_bestIndex_72 0 of r a b bst lst i t 16 0 ⟨by rw [hK.k0], ?_⟩
  refine c_costOnPaper (c := cIdx c of i) (L := L) (mood := mood) hK hF (Or.inr ⟨rfl, rfl⟩) c1 (cinv_idx hC z0.1 z0.2 i0 i2) ⟨ht, hl.2⟩ (by rw [e1, pUp_an (by decide)]; exact hm) m0 zr za zb fun F2 E2 w2 _ => ?_
  have p2 := p1.trans w2.p
  have e17 : E2 17 = E1 17 := w2.1 17 (by decide) (by decide) (by decide) (by decide) (by decide) (by decide) (by decide)
  have q := hQ F2 E2 p2 (fun v => by rw [e17, c1, cIdx_cIdx])
  refine vX11_bestIndex_79 0 of r a b bst lst i _ ⟨fun y => ⟨by omega, ?_⟩, fun y => ⟨by omega, ?_⟩⟩
  · rw [if_pos (show lst ≤ qIx c L mood of r a b i from y), if_pos (show lst ≤ qIx c L mood of r a b i from y)] at q
    exact q
  · rw [if_neg (show ¬ lst ≤ qIx c L mood of r a b i from y), if_neg (show ¬ lst ≤ qIx c L mood of r a b i from y)] at q
    exact q
end C
section R
variable {l : Launch} {G : pG} {bg : Nat × Nat} {n : Nat} {K : Int → Nat × Nat} {F E : Int → Int → Int} {Q : Option pV → pM → Prop} {L : Option tLaw} {of r a b mood bst lst i old : Int} {c g : Int → Int}
theorem r_bestIndex_46 (hK : KS K) (hF : FS F) (hs : ∀ v, rUp (E 68) (12 + of) v = rUp g (12 + of) v) (hc : cz (sh6 g) = c) (hC : CInv c) (h20 : F 66 20 = 0) (hl : LawF g L) (hlo : LwOk L) (hm : g 5 = mood) (m0 : 0 ≤ mood ∧ mood ≤ 9) (z0 : 0 ≤ of ∧ of < 3) (zr : 0 ≤ r ∧ r < 3) (za : 0 ≤ a ∧ a < 10) (zb : 0 ≤ b ∧ b < 10) (i0 : 0 ≤ i) (i2 : i ≤ 2)
    (hQ : ∀ F' E', FrP F (pRow E 68 g) F' (pRow E' 68 g) → (∀ v, rUp (E' 68) (12 + of) v = rUp g (12 + of) v) → PW l G 8 mX12_bestIndex bg 46 [(0, (2, 66)), (1, (0, of)), (2, (0, r)), (3, (0, a)), (4, (0, b)), (5, (0, old)), (6, (0, if lst ≤ qIx c L mood of r a b i then lst else qIx c L mood of r a b i)), (7, (0, if lst ≤ qIx c L mood of r a b i then bst else i)), (8, (0, i + 1))] [] (n, K, F', E') Q) :
    PW l G 8 mX12_bestIndex bg 46 [(0, (2, 66)), (1, (0, of)), (2, (0, r)), (3, (0, a)), (4, (0, b)), (5, (0, old)), (6, (0, lst)), (7, (0, bst)), (8, (0, i))] [] (n, K, F, E) Q := by
  refine vX12_bestIndex_46 66 of r a b old lst bst i ?_
  simp only [hF.f66_3, hK.k66, hK.k68]
  refine ⟨fun z => absurd z (by omega), fun _ => ⟨trivial, by omega, by decide, trivial, by omega, fun E2 e2 => ?_⟩⟩
  have r68 : E2 68 = rUp g (12 + of) i := by rw [e2, pUp1, if_pos rfl, hs]
  have cc : cz (sh6 (E2 68)) = cIdx c of i := by
    rw [r68, sh6_up (k := 6 + of) (by omega), cz_up (by omega) (by omega), hc]
    rfl
  refine r_costNow (c := cIdx c of i) (L := L) (mood := mood) hK hF cc (cinv_idx hC z0.1 z0.2 i0 i2) h20 (hl.congr fun j hj => by rw [r68, rUp_n (by omega)]) hlo (by rw [r68, rUp_n (by omega)]; exact hm) m0 zr za zb fun F3 E3 p3 _ _ _ => ?_
  have q := hQ F3 E3 (p3.row68 (fun p hp => by rw [e2, pUp_an hp])) (fun v => by
    rw [p3.e68, r68]
    funext k
    by_cases e : k = 12 + of
    · subst e; rw [rUp_s, rUp_s]
    · rw [rUp_n e, rUp_n e, rUp_n e])
  refine vX12_bestIndex_71 66 of r a b old lst bst i _ ⟨fun y => ⟨fun _ => ⟨by omega, ?_⟩, fun x => absurd y x⟩, fun y => ⟨fun x => absurd x y, fun _ => ⟨by omega, ?_⟩⟩⟩
  · rw [if_pos (show lst ≤ qIx c L mood of r a b i from y), if_pos (show lst ≤ qIx c L mood of r a b i from y)] at q
    exact q
  · rw [if_neg (show ¬ lst ≤ qIx c L mood of r a b i from y), if_neg (show ¬ lst ≤ qIx c L mood of r a b i from y)] at q
    exact q
end R
theorem two_bestIndex {l : Launch} {G : pG} {of r a b : Int} : Pair lawLR l G 32 mX11_bestIndex (0, 0) 8 mX12_bestIndex (0, 0) [(0, of), (0, r), (0, a), (0, b)] := by
  intro n K F E h
  have hK := h.KS
  have hF := h.FS
  have hC := cinv_cz h.2.1.1.2
  obtain ⟨L, hl, hlr⟩ := inv_law h
  obtain ⟨⟨t1, t2, t3⟩, ti⟩ := inv_terms h
  have no : ¬ ((0 ≤ of ∧ of < 3) ∧ (0 ≤ r ∧ r < 3) ∧ (0 ≤ a ∧ a < 10) ∧ (0 ≤ b ∧ b < 10)) → PostC lawLR l G 8 mX12_bestIndex (0, 0) [(0, of), (0, r), (0, a), (0, b)] (n, K, F, E) (some (0, -1)) (n, K, F, E) := fun z => by
    refine ⟨_, rfl, Out.refl, hK, ?_⟩
    refine vX12_bestIndex_0 66 of r a b ⟨by rw [hK.k66], fun F2 f2 => ?_⟩
    have q2 : FrP F E F2 E := by rw [f2]; exact (FrP.refl hF).zero
    exact ⟨fun y => ⟨rfl, q2.out, q2.inv h⟩, fun y => ⟨fun x => absurd ⟨y, x⟩ z, fun x => ⟨rfl, q2.out, q2.inv h⟩⟩⟩
  refine vX11_bestIndex_0 0 of r a b ?_
  simp only [hF.f0_0, hF.f0_5, hF.f1_0, hF.f2_0, hF.f16_0, hK.k0, hK.k1, hK.k2, hK.k3, hK.k16, hK.k17]
  refine ⟨fun z => no (fun q => z q.1), fun z0 => ⟨fun z => ⟨trivial, trivial, trivial, trivial, by decide, trivial, by decide, trivial, by decide, fun E1 e1 => ?_⟩, fun z => no (fun q => z q.2)⟩⟩
  have p1 : FrP F E F E1 := ⟨fun p h1 _ _ _ _ _ _ _ _ => by rw [e1, pRow_ne h1], hF, fun _ _ _ _ => rfl⟩
  have c17 : cz (E1 17) = cz (E 3) := by
    rw [e1, pRow_at]
    refine cz_ext fun k k0 k1 => ?_
    unfold pCpy
    rw [if_pos (by omega), show (0 : Int) + (k - 0) = k by omega]
  have e4 : ∀ F' E', FrP F E F' E' → E' 4 = E 4 := fun F' E' p => p.1 4 (by decide) (by decide) (by decide) (by decide) (by decide) (by decide) (by decide) (by decide) (by decide)
  have bq : ∀ i, 0 ≤ i → i ≤ 2 → 0 ≤ qIx (cz (E 3)) L (E 4 2) of r a b i ∧ qIx (cz (E 3)) L (E 4 2) of r a b i < 100000000 := fun i i0 i2 => by
    have := (pap_bd (L := L) (mood := E 4 2) (r := r) (a := a) (b := b) (cinv_idx hC z0.1 z0.2 i0 i2) ogI).2.1
    unfold qIx
    omega
  have b0 := bq 0 (by decide) (by decide)
  refine c_bestIndex_44 (c := cz (E 3)) (L := L) (mood := E 4 2) hK hF (fun v => by rw [c17]) hC (hl.keep p1) (by rw [e4 _ _ p1]) ti.2.2 z0 z.1 z.2.1 z.2.2 (by decide) (by decide) fun F2 E2 p2 s2 => ?_
  rw [if_neg (by omega), if_neg (by omega)]
  have p02 := p1.trans p2
  refine c_bestIndex_44 (c := cz (E 3)) (L := L) (mood := E 4 2) hK p2.2.1 s2 hC (hl.keep p02) (by rw [e4 _ _ p02]) ti.2.2 z0 z.1 z.2.1 z.2.2 (by decide) (by decide) fun F3 E3 p3 s3 => ?_
  have p03 := p02.trans p3
  refine c_bestIndex_44 (c := cz (E 3)) (L := L) (mood := E 4 2) hK p3.2.1 s3 hC (hl.keep p03) (by rw [e4 _ _ p03]) ti.2.2 z0 z.1 z.2.1 z.2.2 (by decide) (by decide) fun F4 E4 p4 s4 => ?_
  have p04 := p03.trans p4
  generalize eb : (if (if qIx (cz (E 3)) L (E 4 2) of r a b 0 ≤ qIx (cz (E 3)) L (E 4 2) of r a b (0 + 1) then qIx (cz (E 3)) L (E 4 2) of r a b 0 else qIx (cz (E 3)) L (E 4 2) of r a b (0 + 1)) ≤ qIx (cz (E 3)) L (E 4 2) of r a b (0 + 1 + 1) then (if qIx (cz (E 3)) L (E 4 2) of r a b 0 ≤ qIx (cz (E 3)) L (E 4 2) of r a b (0 + 1) then (0 : Int) else 0 + 1) else 0 + 1 + 1) = best
  refine vX11_bestIndex_44 0 of r a b _ _ (0 + 1 + 1 + 1) ⟨fun _ => ⟨_, rfl, p04.out, hK, ?_⟩, fun y => absurd (by decide) y⟩
  refine vX12_bestIndex_0 66 of r a b ⟨by rw [hK.k66], fun F5 f5 => ⟨fun y => absurd z0 y, fun _ => ⟨fun _ => ?_, fun y => absurd z y⟩⟩⟩
  have p5 : FrP F E F5 E4 := by rw [f5]; exact p04.zero
  have q5 : FrP F4 E4 F5 E4 := by rw [f5]; exact (FrP.refl p04.2.1).zero
  simp only [p04.2.1.f66_3, hK.k68, p04.e68]
  refine ⟨by omega, trivial, by omega, ?_⟩
  have f20 : ∀ F' E', FrP F5 E4 F' E' → F' 66 20 = 0 := fun F' E' p => by rw [p.f20, p5.f20]; exact h.2.2.2.2.2.2.2.2.2.2
  have c68 : cz (sh6 (E 68)) = cz (E 3) := rel_cz h.2.1.1.1
  have r4 : pRow E4 68 (E 68) = E4 := by rw [← p04.e68]; exact pRow_self
  refine r_bestIndex_46 (c := cz (E 3)) (g := E 68) (L := L) (mood := E 4 2) hK p5.2.1 (fun v => by rw [p5.e68]) c68 hC (f20 _ _ (FrP.refl p5.2.1)) hlr hl.2 t3 ti.2.2 z0 z.1 z.2.1 z.2.2 (by decide) (by decide) fun F6 E6 p6 s6 => ?_
  rw [if_neg (by omega), if_neg (by omega)]
  rw [r4] at p6
  refine r_bestIndex_46 (c := cz (E 3)) (g := E 68) (L := L) (mood := E 4 2) hK p6.2.1 s6 c68 hC (f20 _ _ p6) hlr hl.2 t3 ti.2.2 z0 z.1 z.2.1 z.2.2 (by decide) (by decide) fun F7 E7 p7 s7 => ?_
  have p67 := p6.trans p7
  refine r_bestIndex_46 (c := cz (E 3)) (g := E 68) (L := L) (mood := E 4 2) hK p7.2.1 s7 c68 hC (f20 _ _ p67) hlr hl.2 t3 ti.2.2 z0 z.1 z.2.1 z.2.2 (by decide) (by decide) fun F8 E8 p8 s8 => ?_
  have p68 := p67.trans p8
  rw [eb]
  refine vX12_bestIndex_46 66 of r a b _ _ best (0 + 1 + 1 + 1) ⟨fun _ => ?_, fun y => absurd (by decide) y⟩
  simp only [p8.2.1.f66_3, hK.k66, hK.k68]
  refine ⟨trivial, by omega, by decide, trivial, by omega, fun E9 e9 => ?_⟩
  have q9 : E9 = pRow E8 68 (E 68) := by
    rw [e9, pUp_row, s8]
    congr 1
    funext k
    rw [rUpA]
    by_cases e : k = 12 + of
    · rw [if_pos e, e]
    · rw [if_neg e]
  rw [q9]
  exact ⟨rfl, (q5.trans p68).out, (p5.trans p68).inv h⟩
