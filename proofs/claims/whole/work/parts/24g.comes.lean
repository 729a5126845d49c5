/-! THE WAY OF ONE TUPLE in the reference: advance -/
section R
variable {l : Launch} {G : pG} {bg : Nat × Nat} {n : Nat} {K : Int → Nat × Nat} {Q : Option pV → pM → Prop} {c : Int → Int} {L : Option tLaw} {og : Int → Int} {fx : Bool} {B : Int → Int} {r0 a0 b0 bud f : Int} {st fd : Int → Int}
theorem bShl_rng {N : Int} (h0 : 0 ≤ N) (h1 : N ≤ 4) : 1 ≤ bShl 1 N ∧ bShl 1 N ≤ 16 := by
  rcases (show N = 0 ∨ N = 1 ∨ N = 2 ∨ N = 3 ∨ N = 4 by omega) with e | e | e | e | e <;> subst e <;> decide
theorem r_advance_12 (g0 : 0 ≤ f) (g1 : f < 3) (hs : StOk c r0 a0 b0 st fd) (k : Nat) : ∀ (m dp : Int) (s : tS) (F E : Int → Int → Int) (T C : Int), CtxR K F E c L og fx B r0 a0 b0 → FrmR E f m st → RepR F E (c 0) s → SBd s T C → T + Xb k ≤ 100000000 → C + Xb k ≤ 1000000 → 0 ≤ T → 0 ≤ C → s.2.2.2 4 = 0 → 0 ≤ dp → dp + k = c 0 → manyM m = dp → 0 ≤ m → m < bShl 1 (c 0) →
    (∀ F' E', FrR f F E F' E' → RepR F' E' (c 0) (pS c (csS L B) bud og fx k m dp f st fd s) → (pS c (csS L B) bud og fx k m dp f st fd s).2.2.2 4 = 0 → Q (some (0, 0)) (n, K, F', E')) →
    (∀ F' E', FrR f F E F' E' → RepR F' E' (c 0) (pS c (csS L B) bud og fx k m dp f st fd s) → (pS c (csS L B) bud og fx k m dp f st fd s).2.2.2 4 = 1 → Q (some (0, 2)) (n, K, F', E')) →
    (∀ (k' : Nat) (o m' dp' : Int) (s2 : tS) (T' C' : Int) (F' E' : Int → Int → Int), k' < k → (0 ≤ o ∧ o < c 0) → opnP c st m' o → toOp c st o ≠ -1 → dp' + (k' + 1 : Nat) = c 0 → 0 ≤ dp' → manyM m' = dp' → (0 ≤ m' ∧ m' < bShl 1 (c 0)) → SBd s2 T' C' → T' + (1 + Xb k') * 9 ≤ 100000000 → C' + (1 + Xb k') * 9 + 1 ≤ 1000000 → 0 ≤ T' → 0 ≤ C' → s2.2.2.2 4 = 0 →
      pS c (csS L B) bud og fx k m dp f st fd s = shutS (toOp c st o) (lpS (fun i s' => pS c (csS L B) bud og fx k' (addM m' o) (dp' + 1) (f + 1) (stOf c st (toOp c st o) i) (fdOf c fd (toOp c st o) i) (bump o (-1) s')) (qS c fd o (toOp c st o)) (c (9 + toOp c st o)).toNat 0 s2) → FrR f F E F' E' → FrmR E' f m' st → E' 89 f = o → E' 90 f = toOp c st o → E' 91 f = 0 → RepR F' E' (c 0) s2 → Q (some (0, 1)) (n, K, F', E')) →
    PW l G 5 mX12_advance bg 12 [(0, (2, 66)), (1, (0, f)), (2, (0, bud)), (3, (0, bShl 1 (c 0) - 1))] [] (n, K, F, E) Q := by
  induction k with
  | zero =>
    intro m dp s F E T C h hf hr hb hT hC t0 c0 hg d0 d1 hm m0 m1 h0 h2 h1
    have h' := h
    obtain ⟨⟨hK, hF⟩, ⟨_, hCi⟩, _⟩ := h'
    have bN := hCi.1
    have ea := (all_many (c 0) (by omega) m0 m1).mpr (by omega)
    refine vX12_advance_12 66 f bud _ ?_
    simp only [hF.f66_42, hK.k66, hK.k88, hf.2]
    refine ⟨trivial, trivial, by omega, fun _ => ?_, fun z => absurd ea z⟩
    refine r_bringResult (m := m) hK hF g0 g1 hb (by have := Xb_pos 0; omega) hf hr fun F' E' f' r' => vX12_advance_240 (h0 F' E' f' r' ?_)
    show rUp s.2.2.2 1 (s.2.2.2 1 + 1) 4 = 0
    rw [rUp_n (by decide)]; exact hg
  | succ k ih =>
    intro m dp s F E T C h hf hr hb hT hC t0 c0 hg d0 d1 hm m0 m1 h0 h2 h1
    have xp := Xb_pos k
    have xs : Xb (k + 1) = 11 + 9 * Xb k := rfl
    rw [xs] at hT hC
    have h' := h
    obtain ⟨⟨hK, hF⟩, ⟨_, hCi⟩, ⟨h20, hlf, hlo⟩, ⟨hog, _⟩, ⟨e47, e49, e930, e931⟩, ⟨hr0, ha0, hb0⟩, ⟨hB, w2, w3, w4, w7, w8⟩⟩ := h'
    have bN := hCi.1
    have hp := hs.pt hCi ha0 hb0
    have hp0 : ∀ r, 0 ≤ r → r < 3 → 0 ≤ st r := fun r a b => (hp r a b).1
    have bs := bShl_rng bN.1 bN.2
    have rd7 := h.rd (k := 1) (j := 7) (by decide) (by decide) (by decide)
    have cb1 := hCi.2.1
    refine vX12_advance_12 66 f bud _ ?_
    simp only [hF.f66_42, hK.k66, hK.k88, hf.2]
    refine ⟨trivial, trivial, by omega, fun z => absurd ((all_many (c 0) (by omega) m0 m1).mp z) (by omega), fun _ => ?_⟩
    refine r_taker h hf.1 hf.2 hr.1 g0 (by omega) ?_
    have co := chS_open (c := c) (st := st) (tk := s.1) (m := m) (fx := fx) hog.1 (c 0).toNat 0 (-1) (by decide) (by omega) (Or.inl rfl)
    rw [pS_succ] at h0 h2 h1
    generalize chS c st s.1 og m fx (c 0).toNat 0 (-1) = o at *
    refine vX12_advance_27 66 f bud _ o ⟨fun z => ⟨by rw [hK.k66], ?_⟩, fun z => ?_⟩
    · rw [if_neg z] at h0 h2 h1
      obtain ⟨ho, o0, o1⟩ := co.resolve_left z
      have bo := hb.1 o
      have bc := hb.2.1
      have cr := csS_rng (L := L) (B := B) (o := o) (z := szS c st fd o) (t := s.1 o) (d := dp)
      have sz := szS_rng (fd := fd) hCi o0 o1 hp0 ho
      have hb1 := (hb.cost cr.1 cr.2).bump (o := o) (Or.inl rfl)
      refine r_missing h hp0 hf.1 g0 (by omega) o0 o1 ?_
      refine vX12_advance_44 66 f bud _ o _ ⟨by rw [hK.k66], r_sizeFor h hs hf.1 g0 (by omega) o0 o1 ho ?_⟩
      refine vX12_advance_55 66 f bud _ o _ _ ?_
      simp only [hF.f66_3, hF.f66_35, hF.f66_42, hF.f66_46, hF.f66_48, hK.k66, hK.k68, hK.k84, hK.k88, hK.k92, hK.k93, hf.2, e47, e930, e931, rd7]
      refine ⟨trivial, trivial, by decide, by decide, by decide, trivial, by decide, fun E1 q1 => ⟨by decide, fun E2 q2 => ⟨by decide, fun E3 q3 => ⟨trivial, by decide, by omega, by decide, fun E4 q4 => ⟨by decide, by decide, fun E5 q5 => ⟨trivial, by omega, trivial, by omega, r_many m0 (by omega) ?_⟩⟩⟩⟩⟩⟩
      rw [hm, hr.1 o o0 o1]
      have qE : E5 = pRow E 84 (rUp (rUp (rUp (rUp (rUp (E 84) 2 r0) 3 a0) 4 b0) 8 (c 1 + 1)) 9 (E 68 5)) := by
        rw [q5, q4, q3, q2, q1]
        simp only [pUp_row, pRow_row, pRow_at]
      have fr5 : FrR f F E F E5 := by
        rw [q5, q4, q3, q2, q1]
        exact (((((FrR.refl hF).upE (by omega)).upE (by omega)).upE (by omega)).upE (by omega)).upE (by omega)
      clear q1 q2 q3 q4 q5
      refine vX12_advance_104 66 f bud _ o _ _ dp (s.1 o) (szS c st fd o) o 0 66 _ 66 ⟨by rw [hK.k66], ?_⟩
      refine r_tells (W := wC B o (szS c st fd o) (s.1 o) dp) (L := L) hK hF h20 (Or.inl rfl) ?_ (fun i i0 i1 => ?_) (wC_ok hB (by omega) (by omega) (by omega) (by omega)) fun F6 E6 v f4 r6 hv _ => ?_
      · rw [qE, pRow_ne (by decide)]; exact hlf
      · rw [qE, pRow_at]
        rcases (show i = 1 ∨ i = 2 ∨ i = 3 ∨ i = 4 ∨ i = 5 ∨ i = 6 ∨ i = 7 ∨ i = 8 ∨ i = 9 by omega) with e | e | e | e | e | e | e | e | e <;> subst e <;> simp only [wSet, wC, lix, rUpA, Int.reduceEq, reduceIte]
        · exact w2.symm
        · exact w3.symm
        · exact w4.symm
        · exact w8.symm
        · exact w7.symm
      · have fr6 : FrR f F E F6 E6 := fr5.four f4 r6
        have e5 : ∀ r, r ≠ 84 → r ≠ 86 → E6 r = E r := fun r a b => by rw [r6 r a b, qE, pRow_ne a]
        have hr6 : RepR F6 E6 (c 0) s := hr.same (e5 92 (by decide) (by decide)) (e5 94 (by decide) (by decide)) (e5 95 (by decide) (by decide)) (f4.2 66 50 (by omega)) (f4.2 66 51 (by omega)) (f4.2 66 52 (by omega)) (f4.2 66 53 (by omega))
        have hf6 : FrmR E6 f m st := by
          unfold FrmR
          rw [e5 87 (by decide) (by decide), e5 88 (by decide) (by decide)]
          exact hf
        have hF6 := f4.1
        have ev : pBnd v 0 99 = csS L B o (szS c st fd o) (s.1 o) dp := by rw [hv rfl, told_cost sz.1 (by omega), csS_eq sz.1 (by omega)]
        have e50 : F 66 50 = s.2.2.2 0 := hr.2.2.2.1 hg
        refine vX12_advance_110 66 f bud _ o _ v _ 66 ?_
        rw [ev, e50]
        refine ⟨by omega, by omega, by rw [hK.k66], fun F1 e1 => ?_⟩
        have fr1 : FrR f F E F1 E6 := by rw [e1]; exact fr6.up (by decide)
        have hF1 := fr1.2.2.2.1
        have f50 : F1 66 50 = s.2.2.2 0 + csS L B o (szS c st fd o) (s.1 o) dp := by rw [e1, pUp_s]
        have f53 : F1 66 53 = s.2.2.2 3 := by rw [e1, pUp_k (by decide)]; exact hr6.2.2.2.2.2.2
        simp only [hF1.f66_43, hF1.f66_44, hF1.f66_45, hF1.f66_46, hK.k66, hK.k89, hK.k90, hK.k91, hK.k92, f50, f53]
        unfold tkS at h0 h2 h1
        refine ⟨trivial, fun nb => ⟨trivial, by omega, by decide, fun E7 e7 => ?_⟩, fun nb => ?_⟩
        · rw [if_neg (by omega)] at h0 h2 h1
          rw [hr6.1 o o0 o1, w32_id (by omega) (by omega)] at e7
          have hs1 : RepR F1 E7 (c 0) (bump o 1 (setX 0 (s.2.2.2 0 + csS L B o (szS c st fd o) (s.1 o) dp) s)) := by
            obtain ⟨u1, u2, u3, u4, u5, u6, u7⟩ := hr6
            rw [e1, e7]
            refine ⟨fun p p0 p1 => ?_, ?_, ?_, fun _ => pUp_s, (pUp_k (by decide)).trans u5, (pUp_k (by decide)).trans u6, (pUp_k (by decide)).trans u7⟩
            · show _ = rUp s.1 o (s.1 o + 1) p
              by_cases e : p = o
              · rw [e, pUp_s, rUp_s]
              · rw [pUp_k e, rUp_n e]; exact u1 p p0 p1
            · rw [pUp_an (by decide)]; exact u2
            · rw [pUp_an (by decide)]; exact u3
          have fr7 : FrR f F E F1 E7 := by rw [e7]; exact fr1.upE (by omega)
          have hf7 : FrmR E7 f m st := by
            unfold FrmR
            rw [e7, pUp_an (by decide), pUp_an (by decide)]
            exact hf6
          have h7 := h.keep fr7
          have ex : (bump o 1 (setX 0 (s.2.2.2 0 + csS L B o (szS c st fd o) (s.1 o) dp) s)).2.2.2 3 = s.2.2.2 3 := by
            show rUp s.2.2.2 0 (s.2.2.2 0 + csS L B o (szS c st fd o) (s.1 o) dp) 3 = s.2.2.2 3
            exact rUp_n (by decide)
          have eg : (bump o 1 (setX 0 (s.2.2.2 0 + csS L B o (szS c st fd o) (s.1 o) dp) s)).2.2.2 4 = 0 := by
            show rUp s.2.2.2 0 (s.2.2.2 0 + csS L B o (szS c st fd o) (s.1 o) dp) 4 = 0
            rw [rUp_n (by decide)]; exact hg
          generalize bump o 1 (setX 0 (s.2.2.2 0 + csS L B o (szS c st fd o) (s.1 o) dp) s) = s1 at *
          refine ⟨fun zr => ?_, fun zr => ⟨by decide, trivial, by omega, fun E8 e8 => ⟨by decide, trivial, by omega, fun E9 e9 => ⟨by decide, trivial, by omega, fun E10 e10 => ⟨by omega, ?_⟩⟩⟩⟩⟩
          · rw [if_pos zr] at h0 h2 h1
            obtain ⟨t1, t2⟩ := toOp_no hCi o0 o1 hp0 ho zr
            refine r_holds h7 hs hf7.1 g0 (by omega) o0 o1 t1 t2 fun v hv => ?_
            refine vX12_advance_203 66 f bud _ o v ?_
            simp only [hF1.f66_42, hF1.f66_46, hK.k66, hK.k88, hK.k92, hf7.2]
            rcases hv with ⟨so, ev⟩ | ⟨so, ev⟩
            · rw [if_pos so] at h0 h2 h1
              refine ⟨fun _ => ⟨trivial, trivial, by omega, by decide, fun E8 e8 => ⟨trivial, by omega, by decide, fun E9 e9 => ?_⟩⟩, fun w => absurd w (by omega)⟩
              have bo1 := hb1.1 o
              have x92 : E8 92 o = s1.1 o := by rw [e8, pUp_a (by decide)]; exact hs1.1 o o0 o1
              rw [x92, w32_id (by omega) (by omega)] at e9
              have fr9 : FrR f F E F1 E9 := by rw [e9, e8]; exact (fr7.upE (by omega)).upE (by omega)
              have hf9 : FrmR E9 f (addM m o) st := by
                unfold FrmR
                rw [e9, e8, pUp_an (by decide), pUp_an (by decide), pUp_an (by decide), pUp_s]
                exact ⟨hf7.1, rfl⟩
              have hs9 : RepR F1 E9 (c 0) (bump o (-1) s1) := by
                obtain ⟨u1, u2, u3, u4⟩ := hs1
                rw [e9, e8]
                refine ⟨fun p p0 p1 => ?_, ?_, ?_, u4⟩
                · show _ = rUp s1.1 o (s1.1 o + -1) p
                  by_cases e : p = o
                  · rw [e, pUp_s, rUp_s]; omega
                  · rw [pUp_k e, rUp_n e, pUp_a (by decide)]; exact u1 p p0 p1
                · rw [pUp_an (by decide), pUp_an (by decide)]; exact u2
                · rw [pUp_an (by decide), pUp_an (by decide)]; exact u3
              have mr := addM_rng m0 (show m < 16 by omega) o0 (by omega)
              refine ih (addM m o) (dp + 1) (bump o (-1) s1) F1 E9 (T + 1 + 1) (C + 1) (h.keep fr9) hf9 hs9 (hb1.bump (Or.inr rfl)) (by omega) (by omega) (by omega) (by omega) eg (by omega) (by omega) (by rw [addM_many m0 (by omega) o0 (by omega) ho.1]; omega) mr.1 (addM_lt (c 0) (by omega) m0 m1 o0 o1) (fun F' E' f' r' x' => h0 F' E' (fr9.trans f') r' x') (fun F' E' f' r' x' => h2 F' E' (fr9.trans f') r' x') (fun k' o' m' dp' s2 T' C' F' E' q1 q2 q3 q4 q5 q6 q7 q8 q9 q10 q11 q12 q13 q14 q15 f' => h1 k' o' m' dp' s2 T' C' F' E' (by omega) q2 q3 q4 q5 q6 q7 q8 q9 q10 q11 q12 q13 q14 q15 (fr9.trans f'))
            · rw [if_neg so] at h0
              exact ⟨fun w => absurd ev w, fun _ => h0 F1 E7 fr7 hs1 eg⟩
          · rw [if_neg zr] at h1
            have hb2 := hb1.deep (x := f + 1) (by omega) (by omega)
            have fin : ∀ F8, F8 = pUp F1 66 53 (max (s.2.2.2 3) (f + 1)) → Q (some (0, 1)) (n, K, F8, E10) := fun F8 e8' => by
              refine h1 k o m dp (setX 3 (max (s.2.2.2 3) (f + 1)) s1) (T + 1) (C + 1) F8 E10 (by omega) ⟨o0, o1⟩ ho zr (by omega) d0 hm ⟨m0, m1⟩ (by rw [ex] at hb2; exact hb2) (by omega) (by omega) (by omega) (by omega) ?_ rfl ?_ ?_ ?_ ?_ ?_ ?_
              · show rUp s1.2.2.2 3 (max (s.2.2.2 3) (f + 1)) 4 = 0
                rw [rUp_n (by decide)]; exact eg
              · rw [e8', e10, e9, e8]
                exact (((fr7.upE (by omega)).upE (by omega)).upE (by omega)).up (by decide)
              · unfold FrmR
                rw [e10, e9, e8, pUp_an (by decide), pUp_an (by decide), pUp_an (by decide), pUp_an (by decide), pUp_an (by decide), pUp_an (by decide)]
                exact hf7
              · rw [e10, e9, e8, pUp_a (by decide), pUp_a (by decide), pUp_s]
              · rw [e10, e9, pUp_a (by decide), pUp_s]
              · rw [e10, pUp_s]
              · obtain ⟨u1, u2, u3, u4, u5, u6, u7⟩ := hs1
                rw [e8', e10, e9, e8]
                refine ⟨?_, ?_, ?_, fun _ => ?_, ?_, ?_, pUp_s⟩
                · rw [pUp_an (by decide), pUp_an (by decide), pUp_an (by decide)]; exact u1
                · rw [pUp_an (by decide), pUp_an (by decide), pUp_an (by decide)]; exact u2
                · rw [pUp_an (by decide), pUp_an (by decide), pUp_an (by decide)]; exact u3
                · exact (pUp_k (by decide)).trans (u4 eg)
                · exact (pUp_k (by decide)).trans u5
                · exact (pUp_k (by decide)).trans u6
            refine ⟨fun w F8 e8' => fin F8 ?_, fun w F8 e8' => fin F8 ?_⟩
            · rw [e8']; congr 1; omega
            · rw [e8']; congr 1; omega
        · rw [if_pos (by omega)] at h2
          refine h2 F1 E6 fr1 ?_ (show rUp s.2.2.2 4 1 4 = 1 from rUp_s)
          obtain ⟨u1, u2, u3, u4, u5, u6, u7⟩ := hr6
          rw [e1]
          exact ⟨u1, u2, u3, fun q => absurd (show rUp s.2.2.2 4 1 4 = 0 from q) (by rw [rUp_s]; decide), (pUp_k (by decide)).trans u5, (pUp_k (by decide)).trans u6, (pUp_k (by decide)).trans u7⟩
    · rw [if_pos z] at h0
      exact h0 F E (FrR.refl hF) hr hg
end R
