/-! THE WAY OF ONE TUPLE in the class: pass, passAll -/
theorem toOp_rng {c st : Int → Int} {o : Int} (hC : CInv c) (o0 : 0 ≤ o) (o1 : o < c 0) (e : toOp c st o ≠ -1) : 0 ≤ toOp c st o ∧ toOp c st o < 3 := by
  obtain ⟨q1, q2, q3, q4, q5⟩ := op_rng hC o0 o1
  unfold toOp at *
  split at e
  · exact absurd rfl e
  · rename_i z
    rw [if_neg z]
    split at e
    · rename_i w
      rw [if_pos w]; exact q2
    · rename_i w
      rw [if_neg w]
      split at e
      · rename_i u
        rw [if_pos u]; exact q4
      · exact absurd rfl e
theorem pS_bd {c : Int → Int} {cs : Int → Int → Int → Int → Int} {bud : Int} {og : Int → Int} {fx : Bool} (hc : ∀ o z t d, 0 ≤ cs o z t d ∧ cs o z t d ≤ 99) (hC : CInv c) (hog : ∀ i, 0 ≤ i → i < c 0 → 0 ≤ og i ∧ og i < c 0) (k : Nat) : ∀ (m d op : Int) st fd s T C, 0 ≤ op → op + k ≤ 8 → SBd s T C → SBd (pS c cs bud og fx k m d op st fd s) (T + Xb k) (C + Xb k) := by
  induction k with
  | zero => intro m d op st fd s T C o0 o1 h; exact h.res.wide (by have := Xb_pos 0; omega) (by show C + 1 ≤ C + 1; omega)
  | succ k ih =>
    intro m d op st fd s T C o0 o1 h
    have xp := Xb_pos k
    have xs : Xb (k + 1) = 11 + 9 * Xb k := rfl
    rw [pS_succ, xs]
    split
    · exact h.wide (by omega) (by omega)
    · rename_i nc
      have b0 := hC.1
      have cr := (chS_open (c := c) (st := st) (tk := s.1) (m := m) (fx := fx) hog (c 0).toNat 0 (-1) (by decide) (by omega) (Or.inl rfl)).resolve_left nc
      unfold tkS
      have cb := hc (chS c st s.1 og m fx (c 0).toNat 0 (-1)) (szS c st fd (chS c st s.1 og m fx (c 0).toNat 0 (-1))) (s.1 (chS c st s.1 og m fx (c 0).toNat 0 (-1))) d
      have h1 := (h.cost cb.1 cb.2).bump (o := chS c st s.1 og m fx (c 0).toNat 0 (-1)) (Or.inl rfl)
      split
      · exact h.gu.wide (by omega) (by omega)
      · split
        · split
          · exact (ih _ _ _ _ _ _ _ _ o0 (by omega) (h1.bump (Or.inr rfl))).wide (by omega) (by omega)
          · exact h1.wide (by omega) (by omega)
        · rename_i nr
          have tr := toOp_rng hC cr.2.1 cr.2.2 nr
          have b9 := (hC.2.2.2.1 _ tr.1 tr.2)
          have h2 := h1.deep (x := op + 1) (by omega) (by omega)
          have h3 := lp_bd (q := qS c fd (chS c st s.1 og m fx (c 0).toNat 0 (-1)) (toOp c st (chS c st s.1 og m fx (c 0).toNat 0 (-1)))) (X := 1 + Xb k) (by omega) (fun i s' T C hs => (ih (addM m (chS c st s.1 og m fx (c 0).toNat 0 (-1))) (d + 1) (op + 1) (stOf c st (toOp c st (chS c st s.1 og m fx (c 0).toNat 0 (-1))) i) (fdOf c fd (toOp c st (chS c st s.1 og m fx (c 0).toNat 0 (-1))) i) _ _ _ (by omega) (by omega) (hs.bump (o := chS c st s.1 og m fx (c 0).toNat 0 (-1)) (Or.inr rfl))).wide (T' := T + (1 + Xb k)) (C' := C + (1 + Xb k)) (by omega) (by omega)) (c (9 + toOp c st (chS c st s.1 og m fx (c 0).toNat 0 (-1)))).toNat 0 _ _ _ h2
          have e : (1 + Xb k) * ((c (9 + toOp c st (chS c st s.1 og m fx (c 0).toNat 0 (-1)))).toNat : Int) ≤ (1 + Xb k) * 9 := Int.mul_le_mul_of_nonneg_left (by omega) (by omega)
          exact h3.shut.wide (by omega) (by omega)
/-- the class's memory beside what the way has come to; the stamp of the relation q needn't be there -/
def RepL (F E : Int → Int → Int) (N q : Int) (st fd : Int → Int) (s : tS) (op : Int) : Prop :=
  (∀ r, 0 ≤ r → r < 3 → r ≠ q → E 36 r = st r) ∧ (∀ r, 0 ≤ r → r < 3 → 0 < st r → ∀ f, 0 ≤ f → f < 2 → E 37 (r * 2 + f) = fd (r * 2 + f)) ∧ (∀ o, 0 ≤ o → o < N → E 38 o = s.1 o) ∧ (∀ i, 0 ≤ i → i < s.2.2.2 1 * 3 → i < 297 → E 39 i = s.2.1 i) ∧ (∀ i, 0 ≤ i → i < s.2.2.2 2 → i < 99 → E 40 i = s.2.2.1 i) ∧
  F 30 15 = s.2.2.2 0 ∧ F 30 12 = s.2.2.2 1 ∧ F 30 13 = s.2.2.2 2 ∧ F 30 14 = s.2.2.2 3 ∧ F 30 16 = s.2.2.2 4 ∧ F 30 6 = op
abbrev RepC (F E : Int → Int → Int) (N : Int) (st fd : Int → Int) (s : tS) (op : Int) : Prop := RepL F E N (-1) st fd s op
def PtOk (st fd : Int → Int) : Prop := ∀ r, 0 ≤ r → r < 3 → 0 ≤ st r ∧ (0 < st r → ∀ f, 0 ≤ f → f < 2 → 0 ≤ fd (r * 2 + f) ∧ fd (r * 2 + f) < 10)
theorem RepC.st {F E : Int → Int → Int} {N op : Int} {st fd : Int → Int} {s : tS} (h : RepC F E N st fd s op) : ∀ r, 0 ≤ r → r < 3 → E 36 r = st r := fun r a b => h.1 r a b (by omega)
/-- rows that a rep doesn't look at -/
theorem RepL.rows {F E E' : Int → Int → Int} {N q op : Int} {st fd : Int → Int} {s : tS} (h : RepL F E N q st fd s op) (h6 : E' 36 = E 36) (h7 : E' 37 = E 37) (h8 : E' 38 = E 38) (h9 : E' 39 = E 39) (h0 : E' 40 = E 40) : RepL F E' N q st fd s op := by
  unfold RepL
  rw [h6, h7, h8, h9, h0]
  exact h
theorem toOp_no {c st : Int → Int} {m o : Int} (hC : CInv c) (o0 : 0 ≤ o) (o1 : o < c 0) (hp : ∀ r, 0 ≤ r → r < 3 → 0 ≤ st r) (ho : opnP c st m o) (e : toOp c st o = -1) : 0 < st (c (12 + o * 6 + 1)) ∧ (c (12 + o * 6 + 0) = 0 → 0 < st (c (12 + o * 6 + 3))) := by
  obtain ⟨q1, q2, q3, q4, q5⟩ := op_rng hC o0 o1
  have p1 := hp _ q2.1 q2.2
  have p3 := hp _ q4.1 q4.2
  unfold toOp at e
  obtain ⟨_, ho⟩ := ho
  split at e
  · rename_i z
    refine ⟨?_, fun w => by omega⟩
    rcases ho with w | w
    · exact w
    · omega
  · split at e
    · omega
    · split at e
      · omega
      · exact ⟨by omega, fun _ => by omega⟩
theorem toOp_yes {c st : Int → Int} {m o : Int} (hC : CInv c) (o0 : 0 ≤ o) (o1 : o < c 0) (hp : ∀ r, 0 ≤ r → r < 3 → 0 ≤ st r) (ho : opnP c st m o) (e : toOp c st o ≠ -1) : c (12 + o * 6 + 0) = 0 ∧ (0 ≤ toOp c st o ∧ toOp c st o < 3) ∧ st (toOp c st o) = 0 ∧ (toOp c st o = c (12 + o * 6 + 1) ∨ toOp c st o = c (12 + o * 6 + 3)) ∧ ∀ k, k = (if c (12 + o * 6 + 1) = toOp c st o then c (12 + o * 6 + 3) else c (12 + o * 6 + 1)) → (0 ≤ k ∧ k < 3) ∧ 0 < st k := by
  obtain ⟨q1, q2, q3, q4, q5⟩ := op_rng hC o0 o1
  have p1 := hp _ q2.1 q2.2
  have p3 := hp _ q4.1 q4.2
  obtain ⟨_, ho⟩ := ho
  unfold toOp at *
  by_cases z : c (12 + o * 6 + 0) = 1
  · rw [if_pos z] at e; exact absurd rfl e
  · rw [if_neg z] at e ⊢
    by_cases w : st (c (12 + o * 6 + 1)) = 0
    · rw [if_pos w]
      refine ⟨by omega, q2, w, Or.inl rfl, fun k ek => ?_⟩
      rw [if_pos rfl] at ek
      rw [ek]
      exact ⟨q4, by omega⟩
    · rw [if_neg w] at e ⊢
      by_cases u : st (c (12 + o * 6 + 3)) = 0
      · rw [if_pos u]
        refine ⟨by omega, q4, u, Or.inr rfl, fun k ek => ?_⟩
        rw [if_neg (fun t => w (by rw [t]; exact u))] at ek
        rw [ek]
        exact ⟨q2, by omega⟩
      · rw [if_neg u] at e; exact absurd rfl e
theorem szS_rng {c st fd : Int → Int} {m o : Int} (hC : CInv c) (o0 : 0 ≤ o) (o1 : o < c 0) (hp : ∀ r, 0 ≤ r → r < 3 → 0 ≤ st r) (ho : opnP c st m o) : 0 ≤ szS c st fd o ∧ szS c st fd o ≤ 9 := by
  unfold szS
  split
  · omega
  · rename_i e
    obtain ⟨_, t2, _⟩ := toOp_yes hC o0 o1 hp ho e
    have b := hC.2.2.2.1 _ t2.1 t2.2
    unfold lkS
    split
    · have := lk_rng (c := c) (r := toOp c st o) (f := fIn c o (toOp c st o)) (b := bkt (vTh c fd o (toOp c st o))) (c (9 + toOp c st o)).toNat 0 0 (by decide)
      omega
    · omega
section P
variable {l : Launch} {G : pG} {n : Nat} {K : Int → Nat × Nat} {x y : Int} {c : Int → Int} {L : Option tLaw} {bud : Int} {og : Int → Int} {fx : Bool} {B : Int → Int}
/-- what pass does, with so many operators left -/
def PassOk (l : Launch) (G : pG) (n : Nat) (K : Int → Nat × Nat) (x y : Int) (c : Int → Int) (L : Option tLaw) (bud : Int) (og : Int → Int) (fx : Bool) (B : Int → Int) (k : Nat) : Prop :=
  ∀ (d : Nat) (bg : Nat × Nat) (Q : Option pV → pM → Prop) (F E : Int → Int → Int) (m dp op : Int) (st fd : Int → Int) (s : tS) (T C : Int), 12 + 3 * k ≤ d → CtxC K F E x y c L bud og fx B → RepC F E (c 0) st fd s op → PtOk st fd → SBd s T C → T + Xb k ≤ 100000000 → C + Xb k ≤ 1000000 → 0 ≤ T → 0 ≤ C → 0 ≤ dp → dp + k = c 0 → 0 ≤ m → m < 16 → 0 ≤ op → op + k ≤ 8 →
    (∀ F' E', FrC F E F' E' → RepC F' E' (c 0) st fd (pS c (csS L B) bud og fx k m dp op st fd s) op → Q none (n, K, F', E')) → PC l G d mX6_pass bg [(2, 30), (0, m), (0, dp)] (n, K, F, E) Q
theorem c_addResult {bg : Nat × Nat} {Q : Option pV → pM → Prop} {F E : Int → Int → Int} {st fd : Int → Int} {s : tS} {op T C : Int} (h : CtxC K F E x y c L bud og fx B) (hr : RepC F E (c 0) st fd s op) (hb : SBd s T C) (hC : C ≤ 1000000) (hQ : ∀ F' E', FrC F E F' E' → RepC F' E' (c 0) st fd (addR st s) op → Q none (n, K, F', E')) : PC l G 0 mX6_addResult bg [(2, 30)] (n, K, F, E) Q := by
  obtain ⟨⟨hK, hF⟩, _⟩ := h
  obtain ⟨r1, r2, r3, r4, r5, r6, r7, r8, r9, r10, r11⟩ := hr
  obtain ⟨b1, b2, b3, b4, b5, b6⟩ := hb
  refine vX6_addResult_0 30 ?_
  simp only [hF.f30_7, hF.f30_10, hK.k30, hK.k36, hK.k39, r7]
  refine ⟨trivial, fun z => ⟨by omega, fun F1 e1 => ?_⟩, fun z => ⟨by omega, by decide, trivial, by decide, trivial, by omega, fun E2 e2 => ⟨by omega, fun F3 e3 => ?_⟩⟩⟩
  · rw [e1]
    refine hQ _ _ ((FrC.refl hF).up (by decide)) ⟨r1, r2, r3, fun i i0 i1 i2 => ?_, ?_, ?_, pUp_s, ?_, ?_, ?_, ?_⟩
    · show E 39 i = (if s.2.2.2 1 < 99 then _ else s.2.1) i
      rw [if_neg (by omega)]
      exact r4 i i0 (by omega) i2
    · exact r5
    · exact (pUp_k (by decide)).trans r6
    · exact (pUp_k (by decide)).trans r8
    · exact (pUp_k (by decide)).trans r9
    · exact (pUp_k (by decide)).trans r10
    · exact (pUp_k (by decide)).trans r11
  · rw [e2, e3]
    refine hQ _ _ (((FrC.refl hF).up (by decide)).row (by decide)) ⟨?_, ?_, ?_, fun i i0 i1 i2 => ?_, ?_, ?_, pUp_s, ?_, ?_, ?_, ?_⟩
    · rw [pRow_ne (by decide)]; exact r1
    · rw [pRow_ne (by decide)]; exact r2
    · rw [pRow_ne (by decide)]; exact r3
    · have i1' : i < (s.2.2.2 1 + 1) * 3 := by
        have : (addR st s).2.2.2 1 = s.2.2.2 1 + 1 := show rUp s.2.2.2 1 (s.2.2.2 1 + 1) 1 = _ from rUp_s
        rw [this] at i1; exact i1
      rw [pRow_at]
      show pCpy E 36 0 39 (s.2.2.2 1 * 3) 3 i = (if s.2.2.2 1 < 99 then (fun j => if s.2.2.2 1 * 3 ≤ j ∧ j < s.2.2.2 1 * 3 + 3 then st (j - s.2.2.2 1 * 3) else s.2.1 j) else s.2.1) i
      rw [if_pos (by omega)]
      unfold pCpy
      by_cases w : s.2.2.2 1 * 3 ≤ i ∧ i < s.2.2.2 1 * 3 + 3
      · rw [if_pos w, if_pos w, show 0 + (i - s.2.2.2 1 * 3) = i - s.2.2.2 1 * 3 by omega]
        exact r1 _ (by omega) (by omega) (by omega)
      · rw [if_neg w, if_neg w]
        exact r4 i i0 (by omega) i2
    · rw [pRow_ne (by decide)]; exact r5
    · exact (pUp_k (by decide)).trans r6
    · exact (pUp_k (by decide)).trans r8
    · exact (pUp_k (by decide)).trans r9
    · exact (pUp_k (by decide)).trans r10
    · exact (pUp_k (by decide)).trans r11
theorem pass_zero : PassOk l G n K x y c L bud og fx B 0 := by
  intro d bg Q F E m dp op st fd s T C hd h hr hp hb hT hC t0 c0 d0 d1 m0 m1 o0 o1 hQ
  have rd0 := h.rd (k := 0) (by decide) (by decide)
  have h' := h
  obtain ⟨⟨hK, hF⟩, ⟨h3, h4, h5, h6, h7, h8⟩, _⟩ := h'
  refine vX6_pass_0 (e := 0) (by omega) (by omega) 30 m dp ?_
  simp only [h3, h5, h6, h4, rd0, hK.k30]
  refine ⟨trivial, trivial, trivial, by decide, fun z => absurd z (by omega), fun _ => ?_⟩
  exact c_addResult h hr hb (by have := Xb_pos 0; omega) fun F' E' f r => vX6_pass_15 (e := 0) (by omega) (by omega) (hQ F' E' f r)
/-- all tuples of a state that are the same -/
theorem c_passAll_44 {k : Nat} (ih : PassOk l G n K x y c L bud og fx B k) {d : Nat} (hd : 13 + 3 * k ≤ d) {bg : Nat × Nat} {Q : Option pV → pM → Prop} {o r m dp op : Int} {st fd : Int → Int} (o0 : 0 ≤ o) (o1 : o < c 0) (r0 : 0 ≤ r) (r1 : r < 3) (hz : st r = 0) (hp : PtOk st fd) (d0 : 0 ≤ dp) (d1 : dp + (k + 1 : Nat) = c 0) (m0 : 0 ≤ m) (m1 : m < 16) (op0 : 0 ≤ op) (op1 : op + (k + 1 : Nat) ≤ 8) (fr : 0 ≤ fIn c o r ∧ fIn c o r < 2) (w : Nat) :
    ∀ (i : Int) (F E : Int → Int → Int) (s : tS) (T C : Int), i + w = c (9 + r) → 0 ≤ i → CtxC K F E x y c L bud og fx B → RepL F E (c 0) r st fd s (op + 1) → SBd s T C → T + (1 + Xb k) * w ≤ 100000000 → C + (1 + Xb k) * w + 1 ≤ 1000000 → 0 ≤ T → 0 ≤ C →
    (∀ F' E', FrC F E F' E' → RepC F' E' (c 0) st fd (shutS r (lpS (fun i s' => pS c (csS L B) bud og fx k (addM m o) (dp + 1) (op + 1) (stOf c st r i) (fdOf c fd r i) (bump o (-1) s')) (qS c fd o r) w i s)) op → Q none (n, K, F', E')) →
    PW l G d mX6_passAll bg 44 [(0, (2, 30)), (1, (0, o)), (2, (0, r)), (3, (0, m)), (4, (0, dp)), (5, (0, fIn c o r)), (6, (0, vTh c fd o r)), (7, (0, i))] [] (n, K, F, E) Q := by
  have xp := Xb_pos k
  have fin : ∀ (F E : Int → Int → Int) (s : tS) (T C : Int), CtxC K F E x y c L bud og fx B → RepL F E (c 0) r st fd s (op + 1) → SBd s T C → C + 1 ≤ 1000000 → (∀ F' E', FrC F E F' E' → RepC F' E' (c 0) st fd (shutS r s) op → Q none (n, K, F', E')) → (0 : Int) ≤ 36 ∧ True ∧ (0 ≤ r ∧ r < ((3 : Nat) : Int)) ∧ ∀ E1, E1 = pUp E 36 r 0 → (-2147483648 ≤ (op + 1) - 1 ∧ (op + 1) - 1 < 2147483648) ∧ (∀ F2, F2 = pUp F 30 6 ((op + 1) - 1) → ((99 ≤ s.2.2.2 2 → (-2147483648 ≤ s.2.2.2 2 + 1 ∧ s.2.2.2 2 + 1 < 2147483648) ∧ (∀ F3, F3 = pUp F2 30 13 (s.2.2.2 2 + 1) → Q none (n, K, F3, E1))) ∧ (¬ (99 ≤ s.2.2.2 2) → (0 : Int) ≤ 40 ∧ True ∧ (0 ≤ s.2.2.2 2 ∧ s.2.2.2 2 < ((99 : Nat) : Int)) ∧ (∀ E4, E4 = pUp E1 40 (s.2.2.2 2) r → (-2147483648 ≤ s.2.2.2 2 + 1 ∧ s.2.2.2 2 + 1 < 2147483648) ∧ (∀ F5, F5 = pUp F2 30 13 (s.2.2.2 2 + 1) → Q none (n, K, F5, E4)))))) := by
    intro F E s T C h hr hb hC hQ
    have hF := h.1.2
    obtain ⟨q1, q2, q3, q4, q5, q6, q7, q8, q9, q10, q11⟩ := hr
    obtain ⟨b1, b2, b3, b4, b5, b6⟩ := hb
    refine ⟨by decide, trivial, by omega, fun E1 e1 => ⟨by omega, fun F2 e2 => ⟨fun z => ⟨by omega, fun F3 e3 => ?_⟩, fun z => ⟨by decide, trivial, by omega, fun E4 e4 => ⟨by omega, fun F5 e5 => ?_⟩⟩⟩⟩⟩
    · rw [e3, e2, e1]
      refine hQ _ _ ((((FrC.refl hF).up (by decide)).up (by decide)).upE (by decide)) ⟨fun p p0 p1 _ => ?_, ?_, ?_, ?_, fun i i0 i1 i2 => ?_, ?_, ?_, pUp_s, ?_, ?_, ?_⟩
      · by_cases e : p = r
        · rw [e, pUp_s, hz]
        · rw [pUp_k e]; exact q1 p p0 p1 e
      · rw [pUp_an (by decide)]; exact q2
      · rw [pUp_an (by decide)]; exact q3
      · rw [pUp_an (by decide)]; exact q4
      · rw [pUp_a (by decide)]
        show _ = (if s.2.2.2 2 < 99 then rUp s.2.2.1 (s.2.2.2 2) r else s.2.2.1) i
        rw [if_neg (by omega)]
        exact q5 i i0 (by omega) i2
      · exact ((pUp_k (by decide)).trans (pUp_k (by decide))).trans q6
      · exact ((pUp_k (by decide)).trans (pUp_k (by decide))).trans q7
      · exact ((pUp_k (by decide)).trans (pUp_k (by decide))).trans q9
      · exact ((pUp_k (by decide)).trans (pUp_k (by decide))).trans q10
      · rw [pUp_k (by decide), pUp_s]; omega
    · rw [e5, e4, e2, e1]
      refine hQ _ _ (((((FrC.refl hF).up (by decide)).up (by decide)).upE (by decide)).upE (by decide)) ⟨fun p p0 p1 _ => ?_, ?_, ?_, ?_, fun i i0 i1 i2 => ?_, ?_, ?_, pUp_s, ?_, ?_, ?_⟩
      · rw [pUp_a (by decide)]
        by_cases e : p = r
        · rw [e, pUp_s, hz]
        · rw [pUp_k e]; exact q1 p p0 p1 e
      · rw [pUp_an (by decide), pUp_an (by decide)]; exact q2
      · rw [pUp_an (by decide), pUp_an (by decide)]; exact q3
      · rw [pUp_an (by decide), pUp_an (by decide)]; exact q4
      · have i1' : i < s.2.2.2 2 + 1 := by
          have : (shutS r s).2.2.2 2 = s.2.2.2 2 + 1 := show rUp s.2.2.2 2 (s.2.2.2 2 + 1) 2 = _ from rUp_s
          rw [this] at i1; exact i1
        show _ = (if s.2.2.2 2 < 99 then rUp s.2.2.1 (s.2.2.2 2) r else s.2.2.1) i
        rw [if_pos (by omega)]
        by_cases e : i = s.2.2.2 2
        · rw [e, pUp_s, rUp_s]
        · rw [pUp_k e, rUp_n e, pUp_a (by decide)]
          exact q5 i i0 (by omega) i2
      · exact ((pUp_k (by decide)).trans (pUp_k (by decide))).trans q6
      · exact ((pUp_k (by decide)).trans (pUp_k (by decide))).trans q7
      · exact ((pUp_k (by decide)).trans (pUp_k (by decide))).trans q9
      · exact ((pUp_k (by decide)).trans (pUp_k (by decide))).trans q10
      · rw [pUp_k (by decide), pUp_s]; omega
  induction w with
  | zero =>
    intro i F E s T C e i0 h hr hb hT hC t0 c0 hQ
    have rd9 := h.rd (k := 9 + r) (by omega) (by omega)
    have ff := fin F E s T C h hr hb (by omega) hQ
    have h' := h
    obtain ⟨⟨hK, hF⟩, ⟨h3, h4, h5, h6, h7, h8⟩, _⟩ := h'
    obtain ⟨q1, q2, q3, q4, q5, q6, q7, q8, q9, q10, q11⟩ := hr
    refine vX6_passAll_44 (e := 0) (by omega) (by omega) 30 o r m dp _ _ i ?_
    simp only [h3, h5, h6, h4, rd9, hF.f30_7, hF.f30_11, hK.k30, hK.k36, hK.k40, q8, q11]
    exact ⟨trivial, trivial, by omega, trivial, by omega, fun _ => ff, fun z => absurd (by omega) z⟩
  | succ w ihw =>
    intro i F E s T C e i0 h hr hb hT hC t0 c0 hQ
    have ey : (1 + Xb k) * ((w + 1 : Nat) : Int) = (1 + Xb k) + (1 + Xb k) * w := by rw [show ((w + 1 : Nat) : Int) = 1 + w by omega, Int.mul_add, Int.mul_one]
    have yp : 0 ≤ (1 + Xb k) * (w : Int) := Int.mul_nonneg (by omega) (by omega)
    rw [ey] at hT hC
    generalize hY : (1 + Xb k) * (w : Int) = Y at *
    have rd := fun k k0 k1 => h.rd (k := k) k0 k1
    have rd9 := rd (9 + r) (by omega) (by omega)
    have h' := h
    obtain ⟨⟨hK, hF⟩, ⟨h3, h4, h5, h6, h7, h8⟩, ⟨_, hCi⟩, _⟩ := h'
    have b9 := hCi.2.2.2.1 r r0 r1
    have b0 := hCi.1
    have ct := hCi.2.2.2.2.2 r i r0 r1 i0 (by omega)
    have rf := rd (36 + (r * 9 + i) * 3 + fIn c o r) (by omega) (by omega)
    have ra := rd (36 + (r * 9 + i) * 3 + 0) (by omega) (by omega)
    have rb := rd (36 + (r * 9 + i) * 3 + 1) (by omega) (by omega)
    have rs := rd (36 + (r * 9 + i) * 3 + 2) (by omega) (by omega)
    have hr' := hr
    obtain ⟨q1, q2, q3, q4, q5, q6, q7, q8, q9, q10, q11⟩ := hr'
    have hb' := hb
    obtain ⟨b1, b2, b3, b4, b5, b6⟩ := hb'
    refine vX6_passAll_44 (e := 12 + 3 * k) (by omega) (by omega) 30 o r m dp _ _ i ?_
    simp only [h3, h5, h6, h4, rd9, rf, ra, rb, rs, hF.f30_7, hF.f30_8, hF.f30_9, hF.f30_11, hK.k30, hK.k36, hK.k37, hK.k38, hK.k40, q8, q10, q11]
    refine ⟨trivial, trivial, by omega, trivial, by omega, fun z => absurd z (by omega), fun _ => ⟨fun z => ?_, fun z => ⟨by omega, by omega, by omega, by omega, by omega, by omega, fun a11 e11 => ⟨fun u => ⟨by omega, ?_⟩, fun u => ⟨by omega, by omega, fun a12 e12 => ⟨by omega, by omega, fun a13 e13 => ⟨by omega, by omega, fun a14 e14 => ⟨by omega, by decide, trivial, by omega, fun E15 e15 => ⟨by omega, by omega, fun E16 e16 => ⟨by decide, trivial, by omega, fun E17 e17 => ⟨trivial, by omega, by decide, fun E18 e18 => ⟨by omega, ?_⟩⟩⟩⟩⟩⟩⟩⟩⟩⟩⟩⟩
    · refine fin F E s T C h hr hb (by omega) fun F' E' f r' => hQ F' E' f ?_
      show RepC F' E' (c 0) st fd (shutS r (if s.2.2.2 4 = 0 then _ else s)) op
      rw [if_neg z]
      exact r'
    · refine ihw (i + 1) F E s T C (by omega) (by omega) h hr hb (by omega) (by omega) t0 c0 fun F' E' f r' => hQ F' E' f ?_
      show RepC F' E' (c 0) st fd (shutS r (if s.2.2.2 4 = 0 then lpS _ (qS c fd o r) w (i + 1) (if qS c fd o r i = true then _ else s) else s)) op
      rw [if_pos z, if_neg (by unfold qS; rw [decide_eq_true_iff]; omega)]
      exact r'
    · have qi : qS c fd o r i = true := by unfold qS; rw [decide_eq_true_iff]; omega
      have e38 : E17 38 o = s.1 o := by
        rw [e17, pUp_a (by decide), e16, pUp_a (by decide), e15, pUp_a (by decide)]
        exact q3 o o0 o1
      have bo := b1 o
      rw [e38, w32_id (by omega) (by omega)] at e18
      have fr18 : FrC F E F E18 := by
        rw [e18, e17, e16, e15]
        exact ((((FrC.refl hF).upE (by decide)).upE (by decide)).upE (by decide)).upE (by decide)
      have rp : RepC F E18 (c 0) (stOf c st r i) (fdOf c fd r i) (bump o (-1) s) (op + 1) := by
        refine ⟨fun p p0 p1 _ => ?_, fun p p0 p1 pp f f0 f1 => ?_, fun p p0 p1 => ?_, ?_, ?_, q6, q7, q8, q9, q10, q11⟩
        · unfold stOf
          rw [e18, pUp_a (by decide), e17]
          by_cases e : p = r
          · rw [e, pUp_s, rUp_s]; exact e14
          · rw [pUp_k e, rUp_n e, e16, pUp_a (by decide), e15, pUp_a (by decide)]
            exact q1 p p0 p1 e
        · unfold fdOf hdS
          rw [e18, pUp_a (by decide), e17, pUp_a (by decide), e16]
          by_cases e : p = r
          · subst e
            rcases (show f = 0 ∨ f = 1 by omega) with ef | ef <;> subst ef
            · rw [pUp_k (by omega), e15, rUp_n (by omega), show p * 2 + 0 = p * 2 by omega, pUp_s, rUp_s]; exact e12
            · rw [pUp_s, rUp_s]; exact e13
          · have st' : 0 < st p := by
              unfold stOf at pp
              rw [rUp_n e] at pp; exact pp
            rw [pUp_k (by omega), e15, pUp_k (by omega), rUp_n (by omega), rUp_n (by omega)]
            exact q2 p p0 p1 st' f f0 f1
        · show E18 38 p = rUp s.1 o (s.1 o + -1) p
          rw [e18]
          by_cases e : p = o
          · rw [e, pUp_s, rUp_s]; omega
          · rw [pUp_k e, rUp_n e, e17, pUp_a (by decide), e16, pUp_a (by decide), e15, pUp_a (by decide)]
            exact q3 p p0 p1
        · intro j j0 j1 j2
          rw [e18, pUp_a (by decide), e17, pUp_a (by decide), e16, pUp_a (by decide), e15, pUp_a (by decide)]
          exact q4 j j0 j1 j2
        · intro j j0 j1 j2
          rw [e18, pUp_a (by decide), e17, pUp_a (by decide), e16, pUp_a (by decide), e15, pUp_a (by decide)]
          exact q5 j j0 j1 j2
      have pt : PtOk (stOf c st r i) (fdOf c fd r i) := by
        intro p p0 p1
        unfold stOf fdOf hdS
        by_cases e : p = r
        · subst e
          rw [rUp_s, show 36 + (p * 9 + i) * 3 + 2 = 38 + 27 * p + 3 * i by omega]
          refine ⟨by omega, fun _ f f0 f1 => ?_⟩
          rcases (show f = 0 ∨ f = 1 by omega) with ef | ef <;> subst ef
          · rw [rUp_n (by omega), show p * 2 + 0 = p * 2 by omega, rUp_s, show 36 + (p * 9 + i) * 3 + 0 = 36 + 27 * p + 3 * i by omega]; exact ct.1
          · rw [rUp_s, show 36 + (p * 9 + i) * 3 + 1 = 37 + 27 * p + 3 * i by omega]; exact ct.2.1
        · rw [rUp_n e]
          refine ⟨(hp p p0 p1).1, fun pp f f0 f1 => ?_⟩
          rw [rUp_n (by omega), rUp_n (by omega)]
          exact (hp p p0 p1).2 pp f f0 f1
      have bb := hb.bump (o := o) (Or.inr rfl)
      have ma := addM_rng m0 m1 o0 (show o < 4 by omega)
      refine ih (12 + 3 * k) (0, 0) _ F E18 (addM m o) (dp + 1) (op + 1) (stOf c st r i) (fdOf c fd r i) (bump o (-1) s) (T + 1) C (by omega) (h.keep fr18) rp pt bb (by omega) (by omega) (by omega) c0 (by omega) (by omega) ma.1 ma.2 (by omega) (by omega) fun F2 E2 f2 r2 => ?_
      refine vX6_passAll_142 (e := 0) (by omega) (by omega) 30 o r m dp _ _ i ⟨by omega, ?_⟩
      have hx := h.2.2.2.2.2.1.1
      have sb := pS_bd (bud := bud) (og := og) (fx := fx) (c := c) (cs := csS L B) (fun _ _ _ _ => csS_rng) hCi hx.1 k (addM m o) (dp + 1) (op + 1) (stOf c st r i) (fdOf c fd r i) (bump o (-1) s) (T + 1) C (by omega) (by omega) bb
      have f12 := fr18.trans f2
      obtain ⟨u1, u2, u3, u4, u5, u6⟩ := r2
      refine ihw (i + 1) F2 E2 _ (T + (1 + Xb k)) (C + (1 + Xb k)) (by omega) (by omega) (h.keep f12) ⟨fun p p0 p1 pr => ?_, fun p p0 p1 pp f f0 f1 => ?_, u3, u4, u5, u6⟩ (sb.wide (by omega) (by omega)) (by omega) (by omega) (by omega) (by omega) fun F' E' f' r' => hQ F' E' (f12.trans f') ?_
      · rw [u1 p p0 p1 (by omega)]
        exact rUp_n pr
      · have pr : p ≠ r := fun e => by rw [e, hz] at pp; omega
        rw [u2 p p0 p1 (by unfold stOf; rw [rUp_n pr]; exact pp) f f0 f1]
        unfold fdOf hdS
        rw [rUp_n (by omega), rUp_n (by omega)]
      · show RepC F' E' (c 0) st fd (shutS r (if s.2.2.2 4 = 0 then lpS _ (qS c fd o r) w (i + 1) (if qS c fd o r i = true then _ else s) else s)) op
        rw [if_pos z, if_pos qi]
        exact r'
end P
