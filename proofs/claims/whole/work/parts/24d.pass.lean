/-! THE WAY OF ONE TUPLE in the class: pass, behind the choice, then from its entry -/
theorem wCost_eq {w B : Int → Int} {o z t d : Int} (h2 : w 2 = B 2) (h3 : w 3 = B 3) (h4 : w 4 = B 4) (h7 : w 7 = B 7) (h8 : w 8 = B 8) : ∀ k, 0 ≤ k → k < 9 → wCost w o z t d k = wC B o z t d k := by
  intro k k0 k1
  rcases (show k = 0 ∨ k = 1 ∨ k = 2 ∨ k = 3 ∨ k = 4 ∨ k = 5 ∨ k = 6 ∨ k = 7 ∨ k = 8 by omega) with e | e | e | e | e | e | e | e | e <;> subst e <;> simp only [wCost, wC, rUpA, Int.reduceEq, reduceIte]
  · exact h2
  · exact h3
  · exact h4
  · exact h7
  · exact h8
section P
variable {l : Launch} {G : pG} {n : Nat} {K : Int → Nat × Nat} {x y : Int} {c : Int → Int} {L : Option tLaw} {bud : Int} {og : Int → Int} {fx : Bool} {B : Int → Int}
theorem c_costOf2 {bg : Nat × Nat} {Q : Option pV → pM → Prop} {F E : Int → Int → Int} {o z dp : Int} {s : tS} {T C : Int} (h : CtxC K F E x y c L bud og fx B) (o0 : 0 ≤ o) (o1 : o < c 0) (z0 : 0 ≤ z) (z1 : z ≤ 9) (d0 : 0 ≤ dp) (d1 : dp ≤ 4) (e38 : E 38 o = s.1 o) (hb : SBd s T C) (hT : T ≤ 100000000) (hQ : ∀ E', FrC F E F E' → E' 36 = E 36 → E' 37 = E 37 → E' 38 = E 38 → E' 39 = E 39 → E' 40 = E 40 → Q (some (0, csS L B o z (s.1 o) dp)) (n, K, F, E')) : PC l G 3 mX6_costOf bg [(2, 30), (0, o), (0, z), (0, dp)] (n, K, F, E) Q := by
  obtain ⟨⟨hK, hF⟩, _, ⟨_, hC⟩, ⟨hl, hlo⟩, _, _, ⟨hB, w2, w3, w4, w7, w8⟩⟩ := h
  have b0 := hC.1
  have bt := hb.1 o
  have we := wCost_eq (o := o) (z := z) (t := s.1 o) (d := dp) w2 w3 w4 w7 w8
  refine c_costOf hK hF o0 (by omega) hl ?_ fun E' r' r33 => ?_
  · rw [e38]
    intro k k0 k1
    rw [we k k0 k1]
    exact wC_ok hB (by omega) (by omega) (by omega) (by omega) k k0 k1
  · rw [e38] at r33 ⊢
    rw [costS_loc hlo we, ← csS_eq z0 (by omega)]
    refine hQ E' ⟨fun r h1 h2 _ _ _ _ _ => r' r h1 h2, ?_, hF, fun _ _ _ => rfl⟩ (r' 36 (by decide) (by decide)) (r' 37 (by decide) (by decide)) (r' 38 (by decide) (by decide)) (r' 39 (by decide) (by decide)) (r' 40 (by decide) (by decide))
    rw [r33]
    simp only [wCost, rUpA, Int.reduceEq, reduceIte]
    exact ⟨trivial, trivial, trivial, trivial, trivial⟩
theorem c_take {k : Nat} (ih : PassOk l G n K x y c L bud og fx B k) {d : Nat} (hd : 14 + 3 * k ≤ d) {bg : Nat × Nat} {Q : Option pV → pM → Prop} {F E : Int → Int → Int} {o m dp op : Int} {st fd : Int → Int} {s : tS} {T C : Int} (h : CtxC K F E x y c L bud og fx B) (hr : RepC F E (c 0) st fd s op) (hp : PtOk st fd) (hb : SBd s T C) (hT : T + Xb (k + 1) ≤ 100000000) (hCb : C + Xb (k + 1) ≤ 1000000) (t0 : 0 ≤ T) (c0 : 0 ≤ C) (d0 : 0 ≤ dp) (d1 : dp + (k + 1 : Nat) = c 0) (m0 : 0 ≤ m) (m1 : m < 16) (op0 : 0 ≤ op) (op1 : op + (k + 1 : Nat) ≤ 8) (o0 : 0 ≤ o) (o1 : o < c 0) (ho : opnP c st m o)
    (hQ : ∀ F' E', FrC F E F' E' → RepC F' E' (c 0) st fd (tkS c (csS L B) bud og fx k o m dp op st fd s) op → Q none (n, K, F', E')) : PW l G d mX6_pass bg 33 [(0, (2, 30)), (1, (0, m)), (2, (0, dp)), (3, (0, o))] [(0, toOp c st o)] (n, K, F, E) Q := by
  have xp := Xb_pos k
  have xs : Xb (k + 1) = 11 + 9 * Xb k := rfl
  rw [xs] at hT hCb
  have h' := h
  obtain ⟨⟨hK, hF⟩, ⟨h3, h4, h5, h6, h7, h8⟩, ⟨_, hC⟩, _, hbud, _⟩ := h'
  have b0 := hC.1
  have hp0 : ∀ r, 0 ≤ r → r < 3 → 0 ≤ st r := fun r a b => (hp r a b).1
  have sz := szS_rng (fd := fd) hC o0 o1 hp0 ho
  have ma := addM_rng m0 m1 o0 (show o < 4 by omega)
  -- behind what it costs
  have beh : ∀ E', FrC F E F E' → RepC F E' (c 0) st fd s op → PW l G d mX6_pass bg 58 [(0, (2, 30)), (1, (0, m)), (2, (0, dp)), (3, (0, o)), (4, (0, toOp c st o))] [(0, csS L B o (szS c st fd o) (s.1 o) dp)] (n, K, F, E') Q := by
    intro E' f1 hr1
    have cr := csS_rng (L := L) (B := B) (o := o) (z := szS c st fd o) (t := s.1 o) (d := dp)
    have hr1' := hr1
    obtain ⟨q1, q2, q3, q4, q5, q6, q7, q8, q9, q10, q11⟩ := hr1'
    have bo := hb.1 o
    have bc := hb.2.1
    refine vX6_pass_58 (e := 13 + 3 * k) (by omega) (by omega) 30 m dp o (toOp c st o) _ ?_
    simp only [hF.f30_9, hK.k30, hK.k38, q6, hbud]
    refine ⟨trivial, by omega, fun z F1 e1 => ⟨trivial, by omega, by decide, fun E2 e2 => ?_⟩, fun z F3 e3 => ?_⟩
    · rw [q3 o o0 o1, w32_id (by omega) (by omega)] at e2
      have hs1 : RepC F1 E2 (c 0) st fd (bump o 1 (setX 0 (s.2.2.2 0 + csS L B o (szS c st fd o) (s.1 o) dp) s)) op := by
        rw [e1, e2]
        refine ⟨?_, ?_, fun p p0 p1 => ?_, ?_, ?_, pUp_s, ?_, ?_, ?_, ?_, ?_⟩
        · rw [pUp_an (by decide)]; exact q1
        · rw [pUp_an (by decide)]; exact q2
        · show _ = rUp s.1 o (s.1 o + 1) p
          by_cases e : p = o
          · rw [e, pUp_s, rUp_s]
          · rw [pUp_k e, rUp_n e]; exact q3 p p0 p1
        · rw [pUp_an (by decide)]; exact q4
        · rw [pUp_an (by decide)]; exact q5
        · exact (pUp_k (by decide)).trans q7
        · exact (pUp_k (by decide)).trans q8
        · exact (pUp_k (by decide)).trans q9
        · exact (pUp_k (by decide)).trans q10
        · exact (pUp_k (by decide)).trans q11
      have f2 : FrC F E F1 E2 := by
        rw [e1, e2]
        exact (f1.up (by decide)).upE (by decide)
      have hb1 := (hb.cost cr.1 cr.2).bump (o := o) (Or.inl rfl)
      have h1 := h.keep f2
      have tk0 : tkS c (csS L B) bud og fx k o m dp op st fd s = (if toOp c st o = -1 then (if soS c fd o then pS c (csS L B) bud og fx k (addM m o) (dp + 1) op st fd (bump o (-1) (bump o 1 (setX 0 (s.2.2.2 0 + csS L B o (szS c st fd o) (s.1 o) dp) s))) else bump o 1 (setX 0 (s.2.2.2 0 + csS L B o (szS c st fd o) (s.1 o) dp) s)) else shutS (toOp c st o) (lpS (fun i s' => pS c (csS L B) bud og fx k (addM m o) (dp + 1) (op + 1) (stOf c st (toOp c st o) i) (fdOf c fd (toOp c st o) i) (bump o (-1) s')) (qS c fd o (toOp c st o)) (c (9 + toOp c st o)).toNat 0 (setX 3 (max (s.2.2.2 3) (op + 1)) (bump o 1 (setX 0 (s.2.2.2 0 + csS L B o (szS c st fd o) (s.1 o) dp) s))))) := by
        unfold tkS
        rw [if_neg (by omega)]
      rw [tk0] at hQ
      have ex : (bump o 1 (setX 0 (s.2.2.2 0 + csS L B o (szS c st fd o) (s.1 o) dp) s)).2.2.2 3 = s.2.2.2 3 := by
        show rUp s.2.2.2 0 (s.2.2.2 0 + csS L B o (szS c st fd o) (s.1 o) dp) 3 = s.2.2.2 3
        exact rUp_n (by decide)
      generalize bump o 1 (setX 0 (s.2.2.2 0 + csS L B o (szS c st fd o) (s.1 o) dp) s) = s1 at *
      refine ⟨fun zr => ?_, fun zr => ?_⟩
      · rw [if_pos zr] at hQ
        obtain ⟨t1, t2⟩ := toOp_no hC o0 o1 hp0 ho zr
        have rg := op_rng hC o0 o1
        refine c_isSo (fd := fd) h1 o0 o1 (fun k ek f f0 f1 => ?_) fun v hv => ?_
        · rcases ek with ek | ⟨ej, ek⟩
          · rw [ek]; exact hs1.2.1 _ rg.2.1.1 rg.2.1.2 t1 f f0 f1
          · rw [ek]; exact hs1.2.1 _ rg.2.2.2.1.1 rg.2.2.2.1.2 (t2 ej) f f0 f1
        · refine vX6_pass_124 (e := 12 + 3 * k) (by omega) (by omega) 30 m dp o v ?_
          have hF1 := h1.1.2
          simp only [hF1.f30_9, hK.k30, hK.k38]
          rcases hv with ⟨hso, ev⟩ | ⟨hso, ev⟩
          · rw [if_pos hso] at hQ
            refine ⟨fun w => absurd w (by omega), fun _ => ⟨trivial, trivial, by omega, by decide, fun E3 e3 => ⟨by omega, ?_⟩⟩⟩
            have bo1 := hb1.1 o
            rw [hs1.2.2.1 o o0 o1, w32_id (by omega) (by omega)] at e3
            have f3 : FrC F E F1 E3 := by rw [e3]; exact f2.upE (by decide)
            have hs2 : RepC F1 E3 (c 0) st fd (bump o (-1) s1) op := by
              obtain ⟨u1, u2, u3, u4, u5, u6⟩ := hs1
              rw [e3]
              refine ⟨?_, ?_, fun p p0 p1 => ?_, ?_, ?_, u6⟩
              · rw [pUp_an (by decide)]; exact u1
              · rw [pUp_an (by decide)]; exact u2
              · show _ = rUp s1.1 o (s1.1 o + -1) p
                by_cases e : p = o
                · rw [e, pUp_s, rUp_s]; omega
                · rw [pUp_k e, rUp_n e]; exact u3 p p0 p1
              · rw [pUp_an (by decide)]; exact u4
              · rw [pUp_an (by decide)]; exact u5
            refine ih (12 + 3 * k) (0, 0) _ F1 E3 (addM m o) (dp + 1) op st fd (bump o (-1) s1) (T + 1 + 1) (C + 1) (by omega) (h.keep f3) hs2 hp (hb1.bump (Or.inr rfl)) (by omega) (by omega) (by omega) (by omega) (by omega) (by omega) ma.1 ma.2 op0 (by omega) fun F' E' f' r' => ?_
            exact vX6_pass_149 (e := 0) (by omega) (by omega) (hQ F' E' (f3.trans f') r')
          · rw [if_neg hso] at hQ
            exact ⟨fun _ => hQ F1 E2 f2 hs1, fun w => absurd ev w⟩
      · rw [if_neg zr] at hQ
        obtain ⟨t1, t2, t3, t4, t5⟩ := toOp_yes hC o0 o1 hp0 ho zr
        have rg := op_rng hC o0 o1
        have b9 := hC.2.2.2.1 _ t2.1 t2.2
        have fr : 0 ≤ fIn c o (toOp c st o) ∧ fIn c o (toOp c st o) < 2 := by unfold fIn; split <;> omega
        have hF1 := h1.1.2
        generalize toOp c st o = r at *
        refine vX6_passAll_0 (e := 0) (by omega) (by omega) 30 o r m dp ⟨by rw [hK.k30], c_fieldIn h1 o0 o1 ?_⟩
        refine vX6_passAll_6 (e := 0) (by omega) (by omega) 30 o r m dp _ ⟨by rw [hK.k30], c_valueThere h1 o0 o1 t1 (fun k ek f f0 f1 => hs1.2.1 k (t5 k ek).1.1 (t5 k ek).1.2 (t5 k ek).2 f f0 f1) ?_⟩
        refine vX6_passAll_14 (e := 0) (by omega) (by omega) 30 o r m dp _ _ ?_
        have b3 := hb1.2.2.2.2.1
        have hs1' := hs1
        obtain ⟨u1, u2, u3, u4, u5, u6, u7, u8, u9, u10, u11⟩ := hs1'
        simp only [hK.k30, u9, u11]
        refine ⟨trivial, by omega, fun F3 e3 F4 e4 => ?_⟩
        have f4 : FrC F E F4 E2 := by rw [e4, e3]; exact (f2.up (by decide)).up (by decide)
        have hb2 := hb1.deep (x := op + 1) (by omega) (by omega)
        have mb : (1 + Xb k) * ((c (9 + r)).toNat : Int) ≤ (1 + Xb k) * 9 := Int.mul_le_mul_of_nonneg_left (by omega) (by omega)
        refine c_passAll_44 (C := C + 1) (T := T + 1) (s := setX 3 (max (s1.2.2.2 3) (op + 1)) s1) ih (by omega) o0 o1 t2.1 t2.2 t3 hp d0 d1 m0 m1 op0 op1 fr (c (9 + r)).toNat 0 F4 E2 (by omega) (by decide) (h.keep f4) ⟨fun p p0 p1 _ => u1 p p0 p1 (by omega), u2, u3, u4, u5, ?_, ?_, ?_, ?_, ?_, ?_⟩ hb2 (by omega) (by omega) (by omega) (by omega) fun F' E' f' r' => ?_
        · rw [e4, e3]; exact ((pUp_k (by decide)).trans (pUp_k (by decide))).trans u6
        · rw [e4, e3]; exact ((pUp_k (by decide)).trans (pUp_k (by decide))).trans u7
        · rw [e4, e3]; exact ((pUp_k (by decide)).trans (pUp_k (by decide))).trans u8
        · rw [e4]; exact pUp_s
        · rw [e4, e3]; exact ((pUp_k (by decide)).trans (pUp_k (by decide))).trans u10
        · rw [e4, e3, pUp_k (by decide), pUp_s]
        · refine vX6_pass_116 (e := 0) (by omega) (by omega) (hQ F' E' (f4.trans f') ?_)
          rw [ex] at r'
          exact r'
    · rw [e3]
      refine hQ _ _ (f1.up (by decide)) ?_
      unfold tkS
      rw [if_pos (by omega)]
      exact ⟨q1, q2, q3, q4, q5, (pUp_k (by decide)).trans q6, (pUp_k (by decide)).trans q7, (pUp_k (by decide)).trans q8, (pUp_k (by decide)).trans q9, pUp_s, (pUp_k (by decide)).trans q11⟩
  have cst : ∀ z, z = szS c st fd o → PC l G 3 mX6_costOf (0, 0) [(2, 30), (0, o), (0, z), (0, dp)] (n, K, F, E) (fun r μ => PW l G d mX6_pass bg 58 [(0, (2, 30)), (1, (0, m)), (2, (0, dp)), (3, (0, o)), (4, (0, toOp c st o))] (r.toList ++ []) μ Q) := fun z ez => by
    rw [ez]
    exact c_costOf2 h o0 o1 sz.1 sz.2 d0 (by omega) (hr.2.2.1 o o0 o1) hb (by omega) fun E' f1 e6 e7 e8 e9 e0 => beh E' f1 (hr.rows e6 e7 e8 e9 e0)
  refine vX6_pass_33 (e := 0) (by omega) (by omega) 30 m dp o _ ⟨fun z => ⟨by rw [hK.k30], ?_⟩, fun z => ⟨by rw [hK.k30], cst 1 (by unfold szS; rw [if_pos z])⟩⟩
  obtain ⟨t1, t2, t3, t4, t5⟩ := toOp_yes hC o0 o1 hp0 ho z
  refine c_looksAt h o0 o1 t1 t2.1 t2.2 (fun k ek f f0 f1 => ⟨hr.2.1 k (t5 k ek).1.1 (t5 k ek).1.2 (t5 k ek).2 f f0 f1, (hp k (t5 k ek).1.1 (t5 k ek).1.2).2 (t5 k ek).2 f f0 f1⟩) ?_
  exact vX6_pass_54 (e := 0) (by omega) (by omega) 30 m dp o (toOp c st o) _ o 30 ⟨by rw [hK.k30], cst _ (by unfold szS; rw [if_neg z])⟩
theorem pass_succ {k : Nat} (ih : PassOk l G n K x y c L bud og fx B k) : PassOk l G n K x y c L bud og fx B (k + 1) := by
  intro d bg Q F E m dp op st fd s T C hd h hr hp hb hT hC t0 c0 d0 d1 m0 m1 o0 o1 hQ
  have rd0 := h.rd (k := 0) (by decide) (by decide)
  have h' := h
  obtain ⟨⟨hK, hF⟩, ⟨h3, h4, h5, h6, h7, h8⟩, ⟨_, hCi⟩, _, _, ⟨hog, _⟩, _⟩ := h'
  have b0 := hCi.1
  refine vX6_pass_0 (e := 0) (by omega) (by omega) 30 m dp ?_
  simp only [h3, h5, h6, h4, rd0, hK.k30]
  refine ⟨trivial, trivial, trivial, by decide, fun _ => c_chosen h hr.st hr.2.2.1 ?_, fun z => absurd (by omega) z⟩
  have co := chS_open (c := c) (st := st) (tk := s.1) (m := m) (fx := fx) hog.1 (c 0).toNat 0 (-1) (by decide) (by omega) (Or.inl rfl)
  rw [pS_succ] at hQ
  generalize chS c st s.1 og m fx (c 0).toNat 0 (-1) = o at *
  refine vX6_pass_21 (e := 0) (by omega) (by omega) 30 m dp o ⟨fun z => ⟨by rw [hK.k30], ?_⟩, fun z => ?_⟩
  · rw [if_neg z] at hQ
    have co' := co.resolve_left z
    exact c_toOpen h co'.2.1 co'.2.2 hr.st (c_take ih (by omega) h hr hp hb hT hC t0 c0 d0 (by omega) m0 m1 o0 (by omega) co'.2.1 co'.2.2 co'.1 hQ)
  · rw [if_pos z] at hQ
    exact hQ F E (FrC.refl hF) hr
theorem pass_all (k : Nat) : PassOk l G n K x y c L bud og fx B k := by
  induction k with
  | zero => exact pass_zero
  | succ k ih => exact pass_succ ih
end P
