/-! SUMS AND TESTS: what a piece of code comes to, by the words; the class's machine -/
abbrev tPhi : Type := (Int → Int) → Option Int
def jz (o x y : Int) : Int := if o = 6 then x + y else if o = 7 then x - y else if o = 8 then x * y else if o = 9 then x.tdiv y else if o = 10 then x.tmod y else if o = 11 then (if x < y then 1 else 0) else if o = 12 then (if y < x then 1 else 0) else if x = y then 1 else 0
def jn (o x y : Int) : Option Int := if (o = 9 ∨ o = 10) ∧ y = 0 then none else if 1000000000 < jz o x y ∨ jz o x y < -1000000000 then none else some (jz o x y)
def pBin (o : Int) (f g : tPhi) : tPhi := fun w => match f w with
  | none => none
  | some x => match g w with
    | none => none
    | some y => jn o x y
def pNt (f : tPhi) : tPhi := fun w => match f w with
  | none => none
  | some x => some (1 - x)
def pAnd (f g : tPhi) : tPhi := fun w => match f w with
  | none => none
  | some x => if x = 0 then some 0 else g w
def pOr (f g : tPhi) : tPhi := fun w => match f w with
  | none => none
  | some x => if x = 1 then some 1 else g w
/-- words that can be -/
def WOk (w : Int → Int) (nw : Int) : Prop := ∀ k, 0 ≤ k → k < nw → -1999999999 ≤ w k ∧ w k ≤ 1999999999
def PhOk (f : tPhi) (nw : Int) : Prop := ∀ w v, WOk w nw → f w = some v → -1999999999 ≤ v ∧ v ≤ 1999999999
def Tst (f : tPhi) : Prop := ∀ w v, f w = some v → v = 0 ∨ v = 1
theorem pNt_nt {f : tPhi} : pNt (pNt f) = f := by
  funext w
  unfold pNt
  cases f w with
  | none => rfl
  | some x => show some (1 - (1 - x)) = some x; rw [show 1 - (1 - x) = x by omega]
theorem jn_ok {o x y v : Int} (h : jn o x y = some v) : -1000000000 ≤ v ∧ v ≤ 1000000000 := by
  unfold jn at h
  split at h
  · cases h
  · split at h
    · cases h
    · injection h with h
      omega
theorem Tst.nt {f : tPhi} (h : Tst f) : Tst (pNt f) := by
  intro w v e
  unfold pNt at e
  cases q : f w with
  | none => rw [q] at e; cases e
  | some x =>
    rw [q] at e
    injection e with e
    have := h w x q
    omega
theorem Tst.cmp {o : Int} {f g : tPhi} (ho : 11 ≤ o) : Tst (pBin o f g) := by
  intro w v e
  unfold pBin at e
  cases q : f w with
  | none => rw [q] at e; cases e
  | some x =>
    rw [q] at e
    cases q2 : g w with
    | none => rw [q2] at e; cases e
    | some y =>
      rw [q2] at e
      have e2 : jn o x y = some v := e
      unfold jn at e2
      rw [if_neg (by omega)] at e2
      split at e2
      · cases e2
      · injection e2 with e2
        unfold jz at e2
        rw [if_neg (by omega), if_neg (by omega), if_neg (by omega), if_neg (by omega), if_neg (by omega)] at e2
        split at e2
        · split at e2 <;> omega
        · split at e2
          · split at e2 <;> omega
          · split at e2 <;> omega
theorem Tst.and {f g : tPhi} (h : Tst g) : Tst (pAnd f g) := by
  intro w v e
  unfold pAnd at e
  cases q : f w with
  | none => rw [q] at e; cases e
  | some x =>
    rw [q] at e
    dsimp only at e
    split at e
    · injection e with e; omega
    · exact h w v e
theorem Tst.or {f g : tPhi} (h : Tst g) : Tst (pOr f g) := by
  intro w v e
  unfold pOr at e
  cases q : f w with
  | none => rw [q] at e; cases e
  | some x =>
    rw [q] at e
    dsimp only at e
    split at e
    · injection e with e; omega
    · exact h w v e
theorem Tst.ok {f : tPhi} {nw : Int} (h : Tst f) : PhOk f nw := fun w v _ e => by
  have := h w v e
  omega
theorem PhOk.bin {o nw : Int} {f g : tPhi} : PhOk (pBin o f g) nw := by
  intro w v _ e
  unfold pBin at e
  cases q : f w with
  | none => rw [q] at e; cases e
  | some x =>
    rw [q] at e
    cases q2 : g w with
    | none => rw [q2] at e; cases e
    | some y =>
      rw [q2] at e
      have := jn_ok (show jn o x y = some v from e)
      omega
def oV (r : Option Int) : Int := match r with
  | none => 2000000000
  | some v => v
theorem tdiv_le {x y : Int} (h0 : -1999999999 ≤ x) (h1 : x ≤ 1999999999) : -1999999999 ≤ x.tdiv y ∧ x.tdiv y ≤ 1999999999 := by
  have : (x.tdiv y).natAbs ≤ x.natAbs := by rw [Int.natAbs_tdiv]; exact Nat.div_le_self _ _
  omega
theorem mul_le {x y : Int} (h0 : -1999999999 ≤ x) (h1 : x ≤ 1999999999) (h2 : -1999999999 ≤ y) (h3 : y ≤ 1999999999) : -9223372036854775808 ≤ x * y ∧ x * y < 9223372036854775808 := by
  have : (x * y).natAbs ≤ 1999999999 * 1999999999 := by rw [Int.natAbs_mul]; exact Nat.mul_le_mul (by omega) (by omega)
  omega
section J
variable {l : Launch} {G : pG} {bg : Nat × Nat} {n : Nat} {K : Int → Nat × Nat} {F E : Int → Int → Int} {Q : Option pV → pM → Prop} {o x y : Int}
theorem c_joined_149 {z : Int} (h : Q (some (1, oV (if 1000000000 < z ∨ z < -1000000000 then none else some z))) (n, K, F, E)) : PW l G 0 mX4_joined bg 149 [(5, (1, z))] [] (n, K, F, E) Q := by
  refine vX4_joined_149 z ⟨fun a => ?_, fun a => ⟨fun b => ?_, fun b => ?_⟩⟩
  · rw [if_pos (Or.inl a)] at h; exact h
  · rw [if_neg (by omega)] at h; exact h
  · rw [if_pos (by omega)] at h; exact h
theorem c_joined (ho : o = 6 ∨ o = 7 ∨ o = 8 ∨ o = 9 ∨ o = 10 ∨ o = 11 ∨ o = 12 ∨ o = 13) (x0 : -1999999999 ≤ x) (x1 : x ≤ 1999999999) (y0 : -1999999999 ≤ y) (y1 : y ≤ 1999999999) (h : Q (some (1, oV (jn o x y))) (n, K, F, E)) : PC l G 0 mX4_joined bg [(0, o), (1, x), (1, y)] (n, K, F, E) Q := by
  refine vX4_joined_0 o x y ?_
  have hm := mul_le x0 x1 y0 y1
  have hd := tdiv_le (y := y) x0 x1
  have wm : w64 (x * y) = x * y := w64_id hm.1 hm.2
  have wd : w64 (x.tdiv y) = x.tdiv y := w64_id (by omega) (by omega)
  rw [wm, wd]
  unfold jn at h
  rcases ho with e | e | e | e | e | e | e | e <;> subst e <;> simp only [Int.reduceEq, Int.reduceLT, or_self, false_and, true_and, or_false, false_or, true_or, or_true, false_implies, true_implies, not_true_eq_false, not_false_eq_true, and_true, implies_true, reduceIte] at h ⊢
  · exact ⟨by omega, c_joined_149 h⟩
  · exact ⟨by omega, c_joined_149 h⟩
  · exact c_joined_149 h
  · refine ⟨fun z => ?_, fun z => ?_⟩
    · rw [if_neg z] at h; exact c_joined_149 h
    · rw [if_pos z] at h; exact h
  · refine ⟨fun z => ?_, fun z => ?_⟩
    · rw [if_neg z] at h; exact c_joined_149 h
    · rw [if_pos z] at h; exact h
  · refine ⟨fun z => c_joined_149 ?_, fun z => c_joined_149 ?_⟩
    · rw [show jz 11 x y = 0 from if_neg (show ¬ x < y by omega)] at h; exact h
    · rw [show jz 11 x y = 1 from if_pos (show x < y by omega)] at h; exact h
  · refine ⟨fun z => c_joined_149 ?_, fun z => c_joined_149 ?_⟩
    · rw [show jz 12 x y = 0 from if_neg (show ¬ y < x by omega)] at h; exact h
    · rw [show jz 12 x y = 1 from if_pos (show y < x by omega)] at h; exact h
  · refine ⟨fun z => c_joined_149 ?_, fun z => c_joined_149 ?_⟩
    · rw [show jz 13 x y = 0 from if_neg z] at h; exact h
    · rw [show jz 13 x y = 1 from if_pos z] at h; exact h
end J
/-! a piece of the class's code: from a to b it lays what it comes to on the stack -/
def SegC (code : Int → Int) (a b : Int) (f : tPhi) (m nw : Int) : Prop :=
  ∀ (l : Launch) (G : pG) (bg : Nat × Nat) (n : Nat) (K : Int → Nat × Nat) (F E : Int → Int → Int) (Q : Option pV → pM → Prop) (x0 x1 x3 S top : Int),
    (K x0).1 = 4 → F x0 0 = S → K S = (21, 64) → 0 ≤ S → x1 ≠ S → x3 ≠ S → (K x1).1 = 20 → b ≤ ((K x1).2 : Int) → ((K x1).2 : Int) ≤ 1000 → (∀ j, a ≤ j → j < b → E x1 j = code j) → (K x3).1 = 20 → ((K x3).2 : Int) = nw → WOk (E x3) nw → -1 ≤ top → top + m < 64 →
    (∀ v E', f (E x3) = some v → (∀ r, r ≠ S → E' r = E r) → (∀ j, j ≤ top → E' S j = E S j) → E' S (top + 1) = v → PW l G 1 mX4_value bg 6 [(0, (2, x0)), (1, (2, x1)), (3, (2, x3)), (4, (0, top + 1)), (5, (0, b))] [] (n, K, F, E') Q) →
    (∀ E', f (E x3) = none → (∀ r, r ≠ S → E' r = E r) → Q (some (1, 2000000000)) (n, K, F, E')) →
    PW l G 1 mX4_value bg 6 [(0, (2, x0)), (1, (2, x1)), (3, (2, x3)), (4, (0, top)), (5, (0, a))] [] (n, K, F, E) Q
theorem SegC.congr {code code' : Int → Int} {a b m nw : Int} {f : tPhi} (h : SegC code a b f m nw) (e : ∀ j, a ≤ j → j < b → code' j = code j) : SegC code' a b f m nw := by
  intro l G bg n K F E Q x0 x1 x3 S top h1 h2 h3 h4 h5 h6 h7 h8 h9 h10 h11 h12 h13 h14 h15 hv hn
  exact h l G bg n K F E Q x0 x1 x3 S top h1 h2 h3 h4 h5 h6 h7 h8 h9 (fun j a b => (h10 j a b).trans (e j a b)) h11 h12 h13 h14 h15 hv hn
theorem SegC.wide {code : Int → Int} {a b m m' nw : Int} {f : tPhi} (h : SegC code a b f m nw) (e : m ≤ m') : SegC code a b f m' nw := by
  intro l G bg n K F E Q x0 x1 x3 S top h1 h2 h3 h4 h5 h6 h7 h8 h9 h10 h11 h12 h13 h14 h15 hv hn
  exact h l G bg n K F E Q x0 x1 x3 S top h1 h2 h3 h4 h5 h6 h7 h8 h9 h10 h11 h12 h13 h14 (by omega) hv hn
theorem segC_num {code : Int → Int} {a v nw : Int} (a0 : 0 ≤ a) (h1 : code a = 1) (h2 : code (a + 1) = v) : SegC code a (a + 2) (fun _ => some v) 1 nw := by
  intro l G bg n K F E Q x0 x1 x3 S top h3 h4 h5 h6 h7 h8 h9 h10 h11 h12 h13 h14 h15 h16 h17 hv hn
  have e1 : E x1 a = 1 := (h12 a (by omega) (by omega)).trans h1
  have e2 : E x1 (a + 1) = v := (h12 (a + 1) (by omega) (by omega)).trans h2
  refine vX4_value_6 x0 x1 x3 top a ?_
  simp only [e1, e2, h4, h5, h9, h3, Int.reduceEq, false_implies, true_implies, not_true_eq_false, not_false_eq_true, and_true, true_and, implies_true]
  refine ⟨fun z => absurd z (by omega), fun _ => ⟨by omega, fun z => absurd z (by omega), fun _ => ⟨by omega, by omega, by omega, fun z => absurd z (by omega), fun _ => ⟨h6, by omega, fun E2 q2 => ⟨by omega, ?_⟩⟩⟩⟩⟩
  refine hv v E2 rfl (fun r hr => ?_) (fun j hj => ?_) ?_
  · rw [q2, pUp_an hr]
  · rw [q2, pUp_k (by omega)]
  · rw [q2, pUp_s]
theorem segC_word {code : Int → Int} {a k nw : Int} (a0 : 0 ≤ a) (h1 : code a = 2) (h2 : code (a + 1) = k) (k0 : 0 ≤ k) (k1 : k < nw) : SegC code a (a + 2) (fun w => some (w k)) 1 nw := by
  intro l G bg n K F E Q x0 x1 x3 S top h3 h4 h5 h6 h7 h8 h9 h10 h11 h12 h13 h14 h15 h16 h17 hv hn
  have e1 : E x1 a = 2 := (h12 a (by omega) (by omega)).trans h1
  have e2 : E x1 (a + 1) = k := (h12 (a + 1) (by omega) (by omega)).trans h2
  refine vX4_value_6 x0 x1 x3 top a ?_
  simp only [e1, e2, h4, h5, h9, h3, h13, h14, Int.reduceEq, false_implies, true_implies, not_true_eq_false, not_false_eq_true, and_true, true_and, implies_true]
  refine ⟨fun z => absurd z (by omega), fun _ => ⟨by omega, fun z => absurd z (by omega), fun _ => ⟨by omega, by omega, by omega, fun z => absurd z (by omega), fun _ => ⟨fun z => absurd z (by omega), fun _ => ⟨fun _ => ⟨by omega, h6, by omega, fun E2 q2 => ⟨by omega, ?_⟩⟩, fun z => absurd k1 z⟩⟩⟩⟩⟩
  refine hv (E x3 k) E2 rfl (fun r hr => ?_) (fun j hj => ?_) ?_
  · rw [q2, pUp_an hr]
  · rw [q2, pUp_k (by omega)]
  · rw [q2, pUp_s]
section V
variable {l : Launch} {G : pG} {bg : Nat × Nat} {n : Nat} {K : Int → Nat × Nat} {F E : Int → Int → Int} {Q : Option pV → pM → Prop} {x0 x1 x3 S top a : Int}
theorem v_op {o : Int} (h3 : (K x0).1 = 4) (h4 : F x0 0 = S) (h5 : K S = (21, 64)) (h6 : 0 ≤ S) (h9 : (K x1).1 = 20) (h10 : a + 2 ≤ ((K x1).2 : Int)) (h11 : ((K x1).2 : Int) ≤ 1000) (a0 : 0 ≤ a) (t0 : 1 ≤ top) (t1 : top < 64) (ho : o = 6 ∨ o = 7 ∨ o = 8 ∨ o = 9 ∨ o = 10 ∨ o = 11 ∨ o = 12 ∨ o = 13) (e1 : E x1 a = o) (hx : -1999999999 ≤ E S (top - 1) ∧ E S (top - 1) ≤ 1999999999) (hy : -1999999999 ≤ E S top ∧ E S top ≤ 1999999999)
    (hv : ∀ v, jn o (E S (top - 1)) (E S top) = some v → PW l G 1 mX4_value bg 6 [(0, (2, x0)), (1, (2, x1)), (3, (2, x3)), (4, (0, top - 1)), (5, (0, a + 2))] [] (n, K, F, pUp E S (top - 1) v) Q) (hn : jn o (E S (top - 1)) (E S top) = none → ∀ E', (∀ r, r ≠ S → E' r = E r) → Q (some (1, 2000000000)) (n, K, F, E')) :
    PW l G 1 mX4_value bg 6 [(0, (2, x0)), (1, (2, x1)), (3, (2, x3)), (4, (0, top)), (5, (0, a))] [] (n, K, F, E) Q := by
  have key : PC l G 0 mX4_joined (0, 0) [(0, o), (1, E S (top - 1)), (1, E S top)] (n, K, F, E) (fun r μ => PW l G 1 mX4_value bg 270 [(0, (2, x0)), (1, (2, x1)), (3, (2, x3)), (4, (0, top - 1)), (5, (0, a))] (r.toList ++ [(0, top - 1), (2, S)]) μ Q) := by
    refine c_joined ho hx.1 hx.2 hy.1 hy.2 ?_
    refine vX4_value_270 x0 x1 x3 (top - 1) a _ (top - 1) S ?_
    rw [h4, h5]
    refine ⟨h6, rfl, ⟨by omega, show top - 1 < 64 by omega⟩, fun E1 q1 => ⟨h3, h6, rfl, ⟨by omega, show top - 1 < 64 by omega⟩, ?_⟩⟩
    rw [q1, pUp_s]
    cases ej : jn o (E S (top - 1)) (E S top) with
    | none => exact ⟨fun z => absurd rfl z, fun _ => hn ej _ (fun r hr => pUp_an hr)⟩
    | some v =>
      have b := jn_ok ej
      exact ⟨fun _ => ⟨by omega, hv v ej⟩, fun z => absurd (show v = 2000000000 from z) (by omega)⟩
  refine vX4_value_6 x0 x1 x3 top a ?_
  rw [e1]
  rw [show top - 1 = top + (-1) by omega] at key
  have k2 : E S top = E S (top + (-1) + 1) := by rw [show top + (-1) + 1 = top by omega]
  rw [k2] at key
  rcases ho with e | e | e | e | e | e | e | e <;> subst e <;> simp only [h4, h5, h9, h3, Int.reduceEq, false_implies, true_implies, not_true_eq_false, not_false_eq_true, and_true, true_and, implies_true] <;>
  exact ⟨fun z => absurd z (by omega), fun _ => ⟨by omega, fun z => absurd z (by omega), fun _ => ⟨by omega, by omega, fun _ => ⟨fun _ => ⟨by omega, h6, by omega, by omega, by omega, key⟩, fun z => absurd t0 z⟩, fun z => absurd (by omega) z⟩⟩⟩
theorem v_not (h3 : (K x0).1 = 4) (h4 : F x0 0 = S) (h5 : K S = (21, 64)) (h6 : 0 ≤ S) (h9 : (K x1).1 = 20) (h10 : a + 2 ≤ ((K x1).2 : Int)) (h11 : ((K x1).2 : Int) ≤ 1000) (a0 : 0 ≤ a) (t0 : 0 ≤ top) (t1 : top < 64) (e1 : E x1 a = 3) (hx : -1999999999 ≤ E S top ∧ E S top ≤ 1999999999)
    (hv : PW l G 1 mX4_value bg 6 [(0, (2, x0)), (1, (2, x1)), (3, (2, x3)), (4, (0, top)), (5, (0, a + 2))] [] (n, K, F, pUp E S top (1 - E S top)) Q) :
    PW l G 1 mX4_value bg 6 [(0, (2, x0)), (1, (2, x1)), (3, (2, x3)), (4, (0, top)), (5, (0, a))] [] (n, K, F, E) Q := by
  refine vX4_value_6 x0 x1 x3 top a ?_
  rw [e1]
  simp only [h4, h5, h9, h3, Int.reduceEq, false_implies, true_implies, not_true_eq_false, not_false_eq_true, and_true, true_and, implies_true]
  refine ⟨fun z => absurd z (by omega), fun _ => ⟨by omega, fun z => absurd z (by omega), fun _ => ⟨by omega, by omega, fun _ => ⟨h6, by omega, by omega, fun E5 q5 => ⟨by omega, ?_⟩⟩, fun z => absurd t0 z⟩⟩⟩
  rw [q5]
  exact hv
/-- a leap: 4 where it is so, 5 where it isn't -/
theorem v_leap {o c to_ : Int} (h3 : (K x0).1 = 4) (h4 : F x0 0 = S) (h5 : K S = (21, 64)) (h6 : 0 ≤ S) (h9 : (K x1).1 = 20) (h10 : a + 2 ≤ ((K x1).2 : Int)) (h11 : ((K x1).2 : Int) ≤ 1000) (a0 : 0 ≤ a) (t0 : 0 ≤ top) (t1 : top < 64) (ho : (o = 4 ∧ c = 1) ∨ (o = 5 ∧ c = 0)) (e1 : E x1 a = o) (e2 : E x1 (a + 1) = to_) (f0 : a + 2 ≤ to_) (f1 : to_ ≤ 1000)
    (hy : E S top = c → PW l G 1 mX4_value bg 6 [(0, (2, x0)), (1, (2, x1)), (3, (2, x3)), (4, (0, top)), (5, (0, to_))] [] (n, K, F, E) Q) (hn : E S top ≠ c → PW l G 1 mX4_value bg 6 [(0, (2, x0)), (1, (2, x1)), (3, (2, x3)), (4, (0, top - 1)), (5, (0, a + 2))] [] (n, K, F, E) Q) :
    PW l G 1 mX4_value bg 6 [(0, (2, x0)), (1, (2, x1)), (3, (2, x3)), (4, (0, top)), (5, (0, a))] [] (n, K, F, E) Q := by
  refine vX4_value_6 x0 x1 x3 top a ?_
  rw [e1, e2]
  have e3 : max a (to_ - 2) + 2 = to_ := by omega
  rcases ho with ⟨e, ec⟩ | ⟨e, ec⟩ <;> subst e <;> subst ec <;> simp only [e3, h4, h5, h9, h3, Int.reduceEq, false_implies, true_implies, not_true_eq_false, not_false_eq_true, and_true, true_and, implies_true]
  · exact ⟨fun z => absurd z (by omega), fun _ => ⟨by omega, fun z => absurd z (by omega), fun _ => ⟨by omega, by omega, fun _ => ⟨h6, by omega, fun z => ⟨by omega, by omega, hn z⟩, fun z => ⟨by omega, by omega, hy z⟩⟩, fun z => absurd t0 z⟩⟩⟩
  · exact ⟨fun z => absurd z (by omega), fun _ => ⟨by omega, fun z => absurd z (by omega), fun _ => ⟨by omega, by omega, fun _ => ⟨h6, by omega, fun z => ⟨by omega, by omega, hn z⟩, fun z => ⟨by omega, by omega, hy z⟩⟩, fun z => absurd t0 z⟩⟩⟩
end V
theorem segC_bin {code : Int → Int} {a p q o m1 m2 nw : Int} {f g : tPhi} (a0 : 0 ≤ a) (ap : a ≤ p) (pq : p ≤ q) (m0 : 1 ≤ m1) (m3 : 1 ≤ m2) (h1 : SegC code a p f m1 nw) (h2 : SegC code p q g m2 nw) (o1 : PhOk f nw) (o2 : PhOk g nw) (ho : o = 6 ∨ o = 7 ∨ o = 8 ∨ o = 9 ∨ o = 10 ∨ o = 11 ∨ o = 12 ∨ o = 13) (hc : code q = o) : SegC code a (q + 2) (pBin o f g) (m1 + m2) nw := by
  intro l G bg n K F E Q x0 x1 x3 S top h3 h4 h5 h6 h7 h8 h9 h10 h11 h12 h13 h14 h15 h16 h17 hv hn
  have bn : ∀ w, f w = none → pBin o f g w = none := fun w e => by unfold pBin; rw [e]
  refine h1 l G bg n K F E Q x0 x1 x3 S top h3 h4 h5 h6 h7 h8 h9 (by omega) h11 (fun j j0 j1 => h12 j j0 (by omega)) h13 h14 h15 h16 (by omega) (fun v E1 e1 r1 s1 t1 => ?_) (fun E1 e1 r1 => hn E1 (bn _ e1) r1)
  have w1 : E1 x3 = E x3 := r1 x3 h8
  refine h2 l G bg n K F E1 Q x0 x1 x3 S (top + 1) h3 h4 h5 h6 h7 h8 h9 (by omega) h11 (fun j j0 j1 => by rw [r1 x1 h7]; exact h12 j (by omega) (by omega)) h13 h14 (by rw [w1]; exact h15) (by omega) (by omega) (fun u E2 e2 r2 s2 t2 => ?_) (fun E2 e2 r2 => ?_)
  · rw [w1] at e2
    have x1' : E2 S (top + 1) = v := (s2 (top + 1) (by omega)).trans t1
    have b1 := o1 _ v h15 e1
    have b2 := o2 _ u h15 e2
    have eb : pBin o f g (E x3) = jn o v u := by unfold pBin; rw [e1]; dsimp only; rw [e2]
    refine v_op (o := o) h3 h4 h5 h6 h9 (by omega) h11 (by omega) (by omega) (by omega) ho (by rw [r2 x1 h7, r1 x1 h7, h12 q (by omega) (by omega)]; exact hc) ?_ ?_ (fun z ez => ?_) (fun ez E' r' => ?_)
    · rw [show top + 1 + 1 - 1 = top + 1 by omega, x1']; exact b1
    · rw [t2]; exact b2
    · rw [show top + 1 + 1 - 1 = top + 1 by omega] at ez ⊢
      rw [x1', t2, ← eb] at ez
      refine hv z _ ez (fun r hr => ?_) (fun j hj => ?_) pUp_s
      · rw [pUp_an hr, r2 r hr, r1 r hr]
      · rw [pUp_k (by omega), s2 j (by omega), s1 j hj]
    · rw [show top + 1 + 1 - 1 = top + 1 by omega, x1', t2, ← eb] at ez
      exact hn E' ez (fun r hr => by rw [r' r hr, r2 r hr, r1 r hr])
  · rw [w1] at e2
    refine hn E2 ?_ (fun r hr => by rw [r2 r hr, r1 r hr])
    unfold pBin
    rw [e1]
    dsimp only
    rw [e2]
theorem segC_nt {code : Int → Int} {a p m nw : Int} {f : tPhi} (a0 : 0 ≤ a) (ap : a ≤ p) (m0 : 1 ≤ m) (h1 : SegC code a p f m nw) (o1 : Tst f) (hc : code p = 3) : SegC code a (p + 2) (pNt f) m nw := by
  intro l G bg n K F E Q x0 x1 x3 S top h3 h4 h5 h6 h7 h8 h9 h10 h11 h12 h13 h14 h15 h16 h17 hv hn
  refine h1 l G bg n K F E Q x0 x1 x3 S top h3 h4 h5 h6 h7 h8 h9 (by omega) h11 (fun j j0 j1 => h12 j j0 (by omega)) h13 h14 h15 h16 (by omega) (fun v E1 e1 r1 s1 t1 => ?_) (fun E1 e1 r1 => hn E1 (by unfold pNt; rw [e1]) r1)
  have b := o1 _ v e1
  refine v_not h3 h4 h5 h6 h9 (by omega) h11 (by omega) (by omega) (by omega) (by rw [r1 x1 h7, h12 p (by omega) (by omega)]; exact hc) (by omega) ?_
  rw [t1]
  refine hv (1 - v) _ (by unfold pNt; rw [e1]) (fun r hr => ?_) (fun j hj => ?_) pUp_s
  · rw [pUp_an hr, r1 r hr]
  · rw [pUp_k (by omega), s1 j hj]
theorem segC_and {code : Int → Int} {a p q m1 m2 nw : Int} {f g : tPhi} (a0 : 0 ≤ a) (ap : a ≤ p) (pq : p + 2 ≤ q) (m0 : 1 ≤ m1) (m3 : 1 ≤ m2) (h1 : SegC code a p f m1 nw) (h2 : SegC code (p + 2) q g m2 nw) (hc : code p = 5) (hl : code (p + 1) = q) : SegC code a q (pAnd f g) (m1 + m2) nw := by
  intro l G bg n K F E Q x0 x1 x3 S top h3 h4 h5 h6 h7 h8 h9 h10 h11 h12 h13 h14 h15 h16 h17 hv hn
  refine h1 l G bg n K F E Q x0 x1 x3 S top h3 h4 h5 h6 h7 h8 h9 (by omega) h11 (fun j j0 j1 => h12 j j0 (by omega)) h13 h14 h15 h16 (by omega) (fun v E1 e1 r1 s1 t1 => ?_) (fun E1 e1 r1 => hn E1 (by unfold pAnd; rw [e1]) r1)
  have w1 : E1 x3 = E x3 := r1 x3 h8
  refine v_leap (o := 5) (c := 0) (to_ := q) h3 h4 h5 h6 h9 (by omega) h11 (by omega) (by omega) (by omega) (by omega) (by rw [r1 x1 h7, h12 p (by omega) (by omega)]; exact hc) (by rw [r1 x1 h7, h12 (p + 1) (by omega) (by omega)]; exact hl) pq (by omega) (fun z => ?_) (fun z => ?_)
  · rw [t1] at z
    refine hv 0 E1 (by unfold pAnd; rw [e1]; dsimp only; rw [if_pos z]) r1 s1 (t1.trans z)
  · rw [t1] at z
    rw [show top + 1 - 1 = top by omega]
    have ea : pAnd f g (E x3) = g (E x3) := by unfold pAnd; rw [e1]; dsimp only; rw [if_neg z]
    refine h2 l G bg n K F E1 Q x0 x1 x3 S top h3 h4 h5 h6 h7 h8 h9 (by omega) h11 (fun j j0 j1 => by rw [r1 x1 h7]; exact h12 j (by omega) (by omega)) h13 h14 (by rw [w1]; exact h15) (by omega) (by omega) (fun u E2 e2 r2 s2 t2 => ?_) (fun E2 e2 r2 => ?_)
    · rw [w1, ← ea] at e2
      exact hv u E2 e2 (fun r hr => by rw [r2 r hr, r1 r hr]) (fun j hj => by rw [s2 j hj, s1 j hj]) t2
    · rw [w1, ← ea] at e2
      exact hn E2 e2 (fun r hr => by rw [r2 r hr, r1 r hr])
theorem segC_or {code : Int → Int} {a p q m1 m2 nw : Int} {f g : tPhi} (a0 : 0 ≤ a) (ap : a ≤ p) (pq : p + 2 ≤ q) (m0 : 1 ≤ m1) (m3 : 1 ≤ m2) (h1 : SegC code a p f m1 nw) (h2 : SegC code (p + 2) q g m2 nw) (hc : code p = 4) (hl : code (p + 1) = q) : SegC code a q (pOr f g) (m1 + m2) nw := by
  intro l G bg n K F E Q x0 x1 x3 S top h3 h4 h5 h6 h7 h8 h9 h10 h11 h12 h13 h14 h15 h16 h17 hv hn
  refine h1 l G bg n K F E Q x0 x1 x3 S top h3 h4 h5 h6 h7 h8 h9 (by omega) h11 (fun j j0 j1 => h12 j j0 (by omega)) h13 h14 h15 h16 (by omega) (fun v E1 e1 r1 s1 t1 => ?_) (fun E1 e1 r1 => hn E1 (by unfold pOr; rw [e1]) r1)
  have w1 : E1 x3 = E x3 := r1 x3 h8
  refine v_leap (o := 4) (c := 1) (to_ := q) h3 h4 h5 h6 h9 (by omega) h11 (by omega) (by omega) (by omega) (by omega) (by rw [r1 x1 h7, h12 p (by omega) (by omega)]; exact hc) (by rw [r1 x1 h7, h12 (p + 1) (by omega) (by omega)]; exact hl) pq (by omega) (fun z => ?_) (fun z => ?_)
  · rw [t1] at z
    refine hv 1 E1 (by unfold pOr; rw [e1]; dsimp only; rw [if_pos z]) r1 s1 (t1.trans z)
  · rw [t1] at z
    rw [show top + 1 - 1 = top by omega]
    have ea : pOr f g (E x3) = g (E x3) := by unfold pOr; rw [e1]; dsimp only; rw [if_neg z]
    refine h2 l G bg n K F E1 Q x0 x1 x3 S top h3 h4 h5 h6 h7 h8 h9 (by omega) h11 (fun j j0 j1 => by rw [r1 x1 h7]; exact h12 j (by omega) (by omega)) h13 h14 (by rw [w1]; exact h15) (by omega) (by omega) (fun u E2 e2 r2 s2 t2 => ?_) (fun E2 e2 r2 => ?_)
    · rw [w1, ← ea] at e2
      exact hv u E2 e2 (fun r hr => by rw [r2 r hr, r1 r hr]) (fun j hj => by rw [s2 j hj, s1 j hj]) t2
    · rw [w1, ← ea] at e2
      exact hn E2 e2 (fun r hr => by rw [r2 r hr, r1 r hr])
/-- a whole piece of code, with the stop behind it -/
def Cd (code : Int → Int) (len a : Int) (f : tPhi) (nw : Int) : Prop := ∃ b m, (0 ≤ a ∧ a ≤ b ∧ b + 1 < len ∧ len ≤ 1000) ∧ (1 ≤ m ∧ m ≤ 60) ∧ code b = 0 ∧ SegC code a b f m nw
theorem c_value {l : Launch} {G : pG} {bg : Nat × Nat} {n : Nat} {K : Int → Nat × Nat} {F E : Int → Int → Int} {Q : Option pV → pM → Prop} {x0 x1 x3 S a nw : Int} {f : tPhi} (h3 : (K x0).1 = 4) (h4 : F x0 0 = S) (h5 : K S = (21, 64)) (h6 : 0 ≤ S) (h7 : x1 ≠ S) (h8 : x3 ≠ S) (h9 : (K x1).1 = 20) (hc : Cd (E x1) ((K x1).2 : Int) a f nw) (h13 : (K x3).1 = 20) (h14 : ((K x3).2 : Int) = nw) (h15 : WOk (E x3) nw) (hf : PhOk f nw)
    (hQ : ∀ E', (∀ r, r ≠ S → E' r = E r) → Q (some (1, oV (f (E x3)))) (n, K, F, E')) : PC l G 1 mX4_value bg [(2, x0), (2, x1), (0, a), (2, x3)] (n, K, F, E) Q := by
  obtain ⟨b, m, ⟨a0, ab, bl, l1⟩, ⟨m0, m1⟩, cb, hs⟩ := hc
  refine vX4_value_0 x0 x1 a x3 ?_
  refine hs l G bg n K F E Q x0 x1 x3 S (-1) h3 h4 h5 h6 h7 h8 h9 (by omega) l1 (fun j _ _ => rfl) h13 h14 h15 (by decide) (by omega) (fun v E1 e1 r1 s1 t1 => ?_) (fun E1 e1 r1 => ?_)
  · have e0 : E1 x1 b = 0 := by rw [r1 x1 h7]; exact cb
    refine vX4_value_6 x0 x1 x3 (-1 + 1) b ?_
    rw [e0]
    simp only [h4, h5, h9, h3, Int.reduceEq, Int.reduceNeg, Int.reduceAdd, false_implies, true_implies, not_true_eq_false, not_false_eq_true, and_true, true_and, implies_true]
    have t2 : E1 S 0 = v := t1
    rw [t2]
    have q := hQ E1 r1
    rw [e1] at q
    exact ⟨fun z => absurd z (by omega), fun _ => ⟨by omega, fun z => absurd z (by omega), fun _ => ⟨by omega, h6, by decide, q⟩⟩⟩
  · have q := hQ E1 r1
    rw [e1] at q
    exact q
