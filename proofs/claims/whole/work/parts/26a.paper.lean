/-! ON PAPER: a way whose budget is never reached -/
theorem lp_big {f f' : Int → tS → tS} {q : Int → Bool} {X B : Int} (X0 : 0 ≤ X) (hf : ∀ i s T C, SBd s T C → s.2.2.2 4 = 0 → 99 * (C + X) ≤ B → f i s = f' i s ∧ (f i s).2.2.2 4 = 0 ∧ SBd (f i s) (T + X) (C + X)) (k : Nat) : ∀ i s T C, SBd s T C → s.2.2.2 4 = 0 → 99 * (C + X * k) ≤ B → lpS f q k i s = lpS f' q k i s ∧ (lpS f q k i s).2.2.2 4 = 0 := by
  induction k with
  | zero => intro i s T C h h4 hB; exact ⟨rfl, h4⟩
  | succ k ih =>
    intro i s T C h h4 hB
    have e : X * ((k + 1 : Nat) : Int) = X + X * k := by rw [show ((k + 1 : Nat) : Int) = 1 + k by omega, Int.mul_add, Int.mul_one]
    have p : 0 ≤ X * (k : Int) := Int.mul_nonneg X0 (by omega)
    rw [e] at hB
    unfold lpS
    rw [if_pos h4, if_pos h4]
    by_cases z : q i = true
    · rw [if_pos z, if_pos z]
      obtain ⟨e1, e2, e3⟩ := hf i s T C h h4 (by omega)
      rw [← e1]
      exact ih (i + 1) _ _ _ e3 e2 (by omega)
    · rw [if_neg z, if_neg z]
      exact ih (i + 1) _ _ _ h h4 (by omega)
theorem pS_big {c : Int → Int} {cs : Int → Int → Int → Int → Int} {bud bud' B : Int} {og : Int → Int} {fx : Bool} (hc : ∀ o z t d, 0 ≤ cs o z t d ∧ cs o z t d ≤ 99) (hC : CInv c) (hog : ∀ i, 0 ≤ i → i < c 0 → 0 ≤ og i ∧ og i < c 0) (hb : B ≤ bud) (hb' : B ≤ bud') (k : Nat) : ∀ (m d op : Int) st fd s T C, 0 ≤ op → op + k ≤ 8 → SBd s T C → s.2.2.2 4 = 0 → 99 * (C + Xb k) ≤ B → pS c cs bud og fx k m d op st fd s = pS c cs bud' og fx k m d op st fd s ∧ (pS c cs bud og fx k m d op st fd s).2.2.2 4 = 0 := by
  induction k with
  | zero =>
    intro m d op st fd s T C o0 o1 h h4 hB
    refine ⟨rfl, ?_⟩
    show rUp s.2.2.2 1 (s.2.2.2 1 + 1) 4 = 0
    rw [rUp_n (by decide)]; exact h4
  | succ k ih =>
    intro m d op st fd s T C o0 o1 h h4 hB
    have xp := Xb_pos k
    have xs : Xb (k + 1) = 11 + 9 * Xb k := rfl
    rw [xs] at hB
    rw [pS_succ, pS_succ]
    by_cases nc : chS c st s.1 og m fx (c 0).toNat 0 (-1) = -1
    · rw [if_pos nc, if_pos nc]
      exact ⟨rfl, h4⟩
    · rw [if_neg nc, if_neg nc]
      have b0 := hC.1
      have cr := (chS_open (c := c) (st := st) (tk := s.1) (m := m) (fx := fx) hog (c 0).toNat 0 (-1) (by decide) (by omega) (Or.inl rfl)).resolve_left nc
      generalize chS c st s.1 og m fx (c 0).toNat 0 (-1) = o at *
      unfold tkS
      have cb := hc o (szS c st fd o) (s.1 o) d
      have h1 := (h.cost cb.1 cb.2).bump (o := o) (Or.inl rfl)
      have s0 := h.2.1
      have x1 : (bump o 1 (setX 0 (s.2.2.2 0 + cs o (szS c st fd o) (s.1 o) d) s)).2.2.2 4 = 0 := h4
      have nb : ¬ bud < s.2.2.2 0 + cs o (szS c st fd o) (s.1 o) d := by omega
      have nb' : ¬ bud' < s.2.2.2 0 + cs o (szS c st fd o) (s.1 o) d := by omega
      rw [if_neg nb, if_neg nb']
      by_cases nr : toOp c st o = -1
      · rw [if_pos nr, if_pos nr]
        by_cases so : soS c fd o
        · rw [if_pos so, if_pos so]
          exact ih _ _ _ _ _ _ _ _ o0 (by omega) (h1.bump (Or.inr rfl)) x1 (by omega)
        · rw [if_neg so, if_neg so]
          exact ⟨rfl, x1⟩
      · rw [if_neg nr, if_neg nr]
        have tr := toOp_rng hC cr.2.1 cr.2.2 nr
        have b9 := (hC.2.2.2.1 _ tr.1 tr.2)
        have h2 : SBd (setX 3 (max (s.2.2.2 3) (op + 1)) (bump o 1 (setX 0 (s.2.2.2 0 + cs o (szS c st fd o) (s.1 o) d) s))) (T + 1) (C + 1) := h1.deep (x := op + 1) (by omega) (by omega)
        have x2 : (setX 3 (max (s.2.2.2 3) (op + 1)) (bump o 1 (setX 0 (s.2.2.2 0 + cs o (szS c st fd o) (s.1 o) d) s))).2.2.2 4 = 0 := h4
        have e : (1 + Xb k) * ((c (9 + toOp c st o)).toNat : Int) ≤ (1 + Xb k) * 9 := Int.mul_le_mul_of_nonneg_left (by omega) (by omega)
        have h3 := lp_big (f := fun i s' => pS c cs bud og fx k (addM m o) (d + 1) (op + 1) (stOf c st (toOp c st o) i) (fdOf c fd (toOp c st o) i) (bump o (-1) s')) (f' := fun i s' => pS c cs bud' og fx k (addM m o) (d + 1) (op + 1) (stOf c st (toOp c st o) i) (fdOf c fd (toOp c st o) i) (bump o (-1) s')) (q := qS c fd o (toOp c st o)) (X := 1 + Xb k) (B := B) (by omega) (fun i s' T C hs h4' hB' => by
          have r1 := ih (addM m o) (d + 1) (op + 1) (stOf c st (toOp c st o) i) (fdOf c fd (toOp c st o) i) _ _ _ (by omega) (by omega) (hs.bump (o := o) (Or.inr rfl)) h4' (by omega)
          exact ⟨r1.1, r1.2, (pS_bd hc hC hog k (addM m o) (d + 1) (op + 1) (stOf c st (toOp c st o) i) (fdOf c fd (toOp c st o) i) _ _ _ (by omega) (by omega) (hs.bump (o := o) (Or.inr rfl))).wide (by omega) (by omega)⟩) (c (9 + toOp c st o)).toNat 0 _ _ _ h2 x2 (by omega)
        exact ⟨congrArg (shutS (toOp c st o)) h3.1, h3.2⟩
/-- what a way costs on paper -/
noncomputable def papS (c : Int → Int) (L : Option tLaw) (mood : Int) (og : Int → Int) (fx : Bool) (r a b : Int) : tS := comS c L mood 100000000 og fx r a b
theorem pap_big {c : Int → Int} {L : Option tLaw} {mood bud : Int} {og : Int → Int} {fx : Bool} {r a b : Int} (hC : CInv c) (hog : OgOk c og fx) (hb : 100000000 ≤ bud) : comS c L mood bud og fx r a b = papS c L mood og fx r a b ∧ (papS c L mood og fx r a b).2.2.2 4 = 0 := by
  have b0 := hC.1
  have xl := Xb_le (k := (c 0).toNat) (by omega)
  have q := pS_big (c := c) (cs := csS L (bB c r a b mood)) (bud := 100000000) (bud' := bud) (B := 100000000) (og := og) (fx := fx) (fun _ _ _ _ => csS_rng) hC hog.1 (by decide) hb (c 0).toNat 0 0 0 (stI c r) (fdI r a b) (sI c) _ _ (by decide) (by omega) (sI_bd hC) rfl (by omega)
  exact ⟨q.1.symm, q.2⟩
theorem pap_bd {c : Int → Int} {L : Option tLaw} {mood : Int} {og : Int → Int} {fx : Bool} {r a b : Int} (hC : CInv c) (hog : OgOk c og fx) : SBd (papS c L mood og fx r a b) 19995581 15581 := com_bd hC hog
/-- what the ways on paper change -/
def FrP (F E F' E' : Int → Int → Int) : Prop := (∀ r, r ≠ 17 → r ≠ 32 → r ≠ 33 → (r < 36 ∨ 40 < r) → r ≠ 50 → r ≠ 51 → r ≠ 84 → (r < 86 ∨ 96 < r) → (r < 99 ∨ 101 < r) → E' r = E r) ∧ FS F' ∧ ∀ a k, a ≠ 30 → ¬ (a = 66 ∧ (k = 0 ∨ k = 34 ∨ k = 38 ∨ k = 39 ∨ k = 40 ∨ k = 47 ∨ k = 49 ∨ k = 50 ∨ k = 51 ∨ k = 52 ∨ k = 53 ∨ k = 56)) → F' a k = F a k
theorem FrP.refl {F E : Int → Int → Int} (h : FS F) : FrP F E F E := ⟨fun _ _ _ _ _ _ _ _ _ _ => rfl, h, fun _ _ _ _ => rfl⟩
theorem FrP.trans {F E F' E' F'' E'' : Int → Int → Int} (h : FrP F E F' E') (h' : FrP F' E' F'' E'') : FrP F E F'' E'' := ⟨fun r h1 h2 h3 h4 h5 h6 h7 h8 h9 => (h'.1 r h1 h2 h3 h4 h5 h6 h7 h8 h9).trans (h.1 r h1 h2 h3 h4 h5 h6 h7 h8 h9), h'.2.1, fun a k q1 q2 => (h'.2.2 a k q1 q2).trans (h.2.2 a k q1 q2)⟩
theorem FrW.p {F E F' E' : Int → Int → Int} (h : FrW F E F' E') : FrP F E F' E' := ⟨fun r _ h2 h3 h4 _ _ _ _ _ => h.1 r h2 h3 (by omega) (by omega) (by omega) (by omega) (by omega), h.2.1, fun a k q _ => h.2.2 a k q⟩
theorem FrV.p {F E F' E' : Int → Int → Int} (h : FrV F E F' E') : FrP F E F' E' := ⟨fun r _ _ _ _ _ _ h7 h8 _ => h.1 r h7 (by omega), h.2.1, fun a k _ q => h.2.2 a k (by omega)⟩
theorem FrP.inv {LR : tLR} {G : pG} {n : Nat} {K : Int → Nat × Nat} {F E F' E' : Int → Int → Int} (h : FrP F E F' E') (hi : Inv LR G n K F E) : Inv LR G n K F' E' := by
  have hr : ∀ a, decide (a = 17 ∨ a = 32 ∨ a = 33 ∨ (36 ≤ a ∧ a ≤ 40) ∨ a = 50 ∨ a = 51 ∨ a = 84 ∨ (86 ≤ a ∧ a ≤ 96) ∨ (99 ≤ a ∧ a ≤ 101)) = false → E' a = E a := fun a ha => by
    have := of_decide_eq_false ha
    exact h.1 a (by omega) (by omega) (by omega) (by omega) (by omega) (by omega) (by omega) (by omega) (by omega)
  have hf : ∀ a k, decide (a = 30 ∨ (a = 66 ∧ (k = 0 ∨ k = 34 ∨ k = 38 ∨ k = 39 ∨ k = 40 ∨ k = 47 ∨ k = 49 ∨ k = 50 ∨ k = 51 ∨ k = 52 ∨ k = 53 ∨ k = 56))) = false → F' a k = F a k := fun a k ha => by
    have := of_decide_eq_false ha
    exact h.2.2 a k (by omega) (by omega)
  refine hi.ext ⟨fun _ => h.2.1, fun t ht => ?_, fun a ha => funext fun k => h.2.2 a k (by omega) (by omega)⟩ ⟨fun es t ht => ?_, fun a ha => ?_, fun a ha => ?_, fun a ha => ?_⟩
  · have q : iTab.all (fun t => !(decide (t.1 = 30 ∨ (t.1 = 66 ∧ (t.2 = 0 ∨ t.2 = 34 ∨ t.2 = 38 ∨ t.2 = 39 ∨ t.2 = 40 ∨ t.2 = 47 ∨ t.2 = 49 ∨ t.2 = 50 ∨ t.2 = 51 ∨ t.2 = 52 ∨ t.2 = 53 ∨ t.2 = 56))))) = true := by decide
    have := List.all_eq_true.mp q t ht
    rw [Bool.not_eq_true'] at this
    exact hf t.1 t.2 this
  · have q : eTab.all (fun t => !(decide (t.1 = 17 ∨ t.1 = 32 ∨ t.1 = 33 ∨ (36 ≤ t.1 ∧ t.1 ≤ 40) ∨ t.1 = 50 ∨ t.1 = 51 ∨ t.1 = 84 ∨ (86 ≤ t.1 ∧ t.1 ≤ 96) ∨ (99 ≤ t.1 ∧ t.1 ≤ 101)))) = true := by decide
    have := List.all_eq_true.mp q t ht
    rw [Bool.not_eq_true'] at this
    rw [hr t.1 this]
    exact es t ht
  · have q : iEs.all (fun t => !(decide (t = 17 ∨ t = 32 ∨ t = 33 ∨ (36 ≤ t ∧ t ≤ 40) ∨ t = 50 ∨ t = 51 ∨ t = 84 ∨ (86 ≤ t ∧ t ≤ 96) ∨ (99 ≤ t ∧ t ≤ 101)))) = true := by decide
    have := List.all_eq_true.mp q a ha
    rw [Bool.not_eq_true'] at this
    exact hr a this
  · exact h.1 a (by omega) (by omega) (by omega) (by omega) (by omega) (by omega) (by omega) (by omega) (by omega)
  · exact h.1 a (by omega) (by omega) (by omega) (by omega) (by omega) (by omega) (by omega) (by omega) (by omega)
theorem FrP.out {n : Nat} {K : Int → Nat × Nat} {F E F' E' : Int → Int → Int} (h : FrP F E F' E') : Out (n, K, F, E) (n, K, F', E') := fun a ha => ⟨rfl, h.1 a (by omega) (by omega) (by omega) (by omega) (by omega) (by omega) (by omega) (by omega) (by omega)⟩
section C
variable {l : Launch} {G : pG} {bg : Nat × Nat} {n : Nat} {K : Int → Nat × Nat} {F E : Int → Int → Int} {Q : Option pV → pM → Prop} {L : Option tLaw}
theorem c_costOnPaper {x y t mood r a b : Int} {c : Int → Int} (hK : KS K) (hF : FS F) (hxy : (x = 2 ∧ y = 3) ∨ (x = 16 ∧ y = 17)) (hc : cz (E y) = c) (hC : CInv c) (hl : ((L = none ∧ t = -1) ∨ ∃ L', L = some L' ∧ LawC K F E t L') ∧ LwOk L) (hm : E 4 2 = mood) (m0 : 0 ≤ mood ∧ mood ≤ 9) (zr : 0 ≤ r ∧ r < 3) (za : 0 ≤ a ∧ a < 10) (zb : 0 ≤ b ∧ b < 10)
    (hQ : ∀ F' E', FrW F E F' E' → F' 30 12 = (papS c L mood (fun i => i) false r a b).2.2.2 1 → Q (some (0, (papS c L mood (fun i => i) false r a b).2.2.2 0)) (n, K, F', E')) :
    PC l G 31 mX11_costOnPaper bg [(2, 0), (2, x), (2, t), (0, r), (0, a), (0, b)] (n, K, F, E) Q := by
  have hx0 : F x 0 = y := by rcases hxy with ⟨e1, e2⟩ | ⟨e1, e2⟩ <;> subst e1 <;> subst e2; exact hF.f2_0; exact hF.f16_0
  have hkx : (K x).1 = 0 := by rcases hxy with ⟨e1, e2⟩ | ⟨e1, e2⟩ <;> subst e1; rw [hK.k2]; rw [hK.k16]
  have hky : K y = (20, 117) := by rcases hxy with ⟨e1, e2⟩ | ⟨e1, e2⟩ <;> subst e2; exact hK.k3; exact hK.k17
  refine vX11_costOnPaper_0 0 x t r a b ?_
  simp only [hF.f0_0, hF.f0_10, hF.f1_1, hF.f30_1, hK.k0, hK.k1, hK.k4, hK.k30, hK.k33, hm]
  refine ⟨trivial, trivial, trivial, by decide, trivial, fun F1 f1 F2 f2 F3 f3 => ⟨by decide, trivial, by decide, fun E4 e4 => ?_⟩⟩
  have w0 : FrW F E F3 E4 := by
    rw [f3, f2, f1, e4]
    exact ((((FrW.refl hF).up (by decide +kernel)).up (by decide +kernel)).up (by decide +kernel)).upE (by decide)
  have F33 : F3 30 3 = t := by rw [f3, f2, f1, pUp_k (by decide), pUp_k (by decide), pUp_s]
  have F35 : F3 30 5 = 1000000000 := by rw [f3, f2, pUp_k (by decide), pUp_s]
  have F34 : F3 30 4 = -1 := by rw [f3, pUp_s]
  have y4 : E4 y = E y := by rw [e4, pUp_an (by omega)]
  have lk : (L = none ∧ F3 30 3 = -1) ∨ ∃ L', L = some L' ∧ LawC K F3 E4 (F3 30 3) L' := by
    rw [F33]
    exact hl.1.imp id (fun ⟨L', e, q⟩ => ⟨L', e, q.keep (fun a ha => funext fun k => w0.2.2 a k (by omega)) (fun a ha => by rw [e4, pUp_an (by omega)])⟩)
  refine c_setTuple (c := c) (L := L) (bud := 1000000000) (mood := mood) (og := fun i => i) (fx := false) hK w0.2.1 hkx ((w0.2.2 x 0 (by omega)).trans hx0) hky (by omega) (by omega) (by rw [y4]; exact hc) hC ⟨lk, hl.2⟩ F35 ⟨ogI, Or.inl ⟨rfl, F34⟩⟩ (by rw [e4, pUp_s]) m0 zr za zb fun F5 E5 w5 cx5 rp5 => ?_
  have w05 := w0.trans w5
  have hF5 := w5.2.1
  refine vX11_costOnPaper_34 0 ?_
  simp only [hF5.f0_10, hK.k0, hK.k30]
  refine ⟨trivial, trivial, c_way (by decide) cx5 rp5 za zb fun F7 E7 f7 rp7 => ?_⟩
  have w07 := w05.trans f7.w
  have hF7 := f7.2.2.1
  rw [(pap_big hC ogI (by decide)).1] at rp7
  obtain ⟨u1, u2, u3, u4, u5, u6, u7, u8, u9, u10, u11⟩ := rp7
  refine vX11_costOnPaper_43 0 ?_
  simp only [hF7.f0_10, hK.k0, hK.k30, u6]
  exact ⟨trivial, trivial, hQ F7 E7 w07 u7⟩
end C
section R
variable {l : Launch} {G : pG} {bg : Nat × Nat} {n : Nat} {K : Int → Nat × Nat} {F E : Int → Int → Int} {Q : Option pV → pM → Prop} {L : Option tLaw} {mood r a b : Int} {c : Int → Int}
theorem r_costNow (hK : KS K) (hF : FS F) (hc : cz (sh6 (E 68)) = c) (hC : CInv c) (h20 : F 66 20 = 0) (hl : LawF (E 68) L) (hlo : LwOk L) (hm : E 68 5 = mood) (m0 : 0 ≤ mood ∧ mood ≤ 9) (zr : 0 ≤ r ∧ r < 3) (za : 0 ≤ a ∧ a < 10) (zb : 0 ≤ b ∧ b < 10)
    (hQ : ∀ F' E', FrP F E F' E' → E' 50 = E 50 → E' 51 = E 51 → F' 66 51 = (papS c L mood (fun i => i) false r a b).2.2.2 1 → Q (some (0, (papS c L mood (fun i => i) false r a b).2.2.2 0)) (n, K, F', E')) :
    PC l G 7 mX12_costNow bg [(2, 66), (0, r), (0, a), (0, b)] (n, K, F, E) Q := by
  refine vX12_costNow_0 66 r a b ⟨by rw [hK.k66], fun F2 f2 => ?_⟩
  have hF2 : FS F2 := by rw [f2]; exact hF.up (by decide +kernel)
  have p2 : FrP F E F2 E := ⟨fun _ _ _ _ _ _ _ _ _ _ => rfl, hF2, fun p k _ q => by rw [f2]; unfold pUp; rw [if_neg (by omega)]⟩
  have k56 : F2 66 56 = 0 := by rw [f2, pUp_s]
  refine r_comes (c := c) (L := L) (bud := 100000000) (mood := mood) (og := fun i => i) (fx := false) hK hF2 hc hC ⟨(p2.2.2 66 20 (by decide) (by omega)).trans h20, hl, hlo⟩ ⟨ogI, Or.inl ⟨rfl, k56⟩⟩ hm m0 zr za zb fun F3 E3 v w3 rp hv => ?_
  have q4 := (pap_big (L := L) (mood := mood) (r := r) (a := a) (b := b) hC ogI (show (100000000 : Int) ≤ 100000000 by decide)).2
  have e0 := rp.2.2.2.1 q4
  refine vX12_costNow_15 66 v ⟨by rw [hK.k66], ?_⟩
  rw [e0]
  exact hQ F3 E3 (p2.trans w3.p) (w3.1 50 (by decide) (by decide)) (w3.1 51 (by decide) (by decide)) rp.2.2.2.2.1
end R
