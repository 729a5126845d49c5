/-! THE WAY OF ONE TUPLE: what comes of a partial, for any costs -/
abbrev tS : Type := (Int → Int) × (Int → Int) × (Int → Int) × (Int → Int)
def addM (m o : Int) : Int := bOr m (bShl 1 o)
abbrev hasM (m o : Int) : Prop := bAnd (bShr m o) 1 = 1
def manyM (m : Int) : Int := 0 + bAnd (bShr m 0) 1 + bAnd (bShr m 1) 1 + bAnd (bShr m 2) 1 + bAnd (bShr m 3) 1
theorem fin_m {p : Int → Int → Prop} (h : ∀ m : Fin 16, ∀ o : Fin 4, p (m : Nat) (o : Nat)) {m o : Int} (m0 : 0 ≤ m) (m1 : m < 16) (o0 : 0 ≤ o) (o1 : o < 4) : p m o := by
  have := h ⟨m.toNat, by omega⟩ ⟨o.toNat, by omega⟩
  dsimp only at this
  rw [show ((m.toNat : Nat) : Int) = m by omega, show ((o.toNat : Nat) : Int) = o by omega] at this
  exact this
theorem addM_rng {m o : Int} (m0 : 0 ≤ m) (m1 : m < 16) (o0 : 0 ≤ o) (o1 : o < 4) : 0 ≤ addM m o ∧ addM m o < 16 := fin_m (p := fun m o => 0 ≤ addM m o ∧ addM m o < 16) (by decide +kernel) m0 m1 o0 o1
theorem addM_many {m o : Int} (m0 : 0 ≤ m) (m1 : m < 16) (o0 : 0 ≤ o) (o1 : o < 4) (h : ¬ hasM m o) : manyM (addM m o) = manyM m + 1 := fin_m (p := fun m o => ¬ hasM m o → manyM (addM m o) = manyM m + 1) (by decide +kernel) m0 m1 o0 o1 h
theorem addM_lt {m o : Int} (n : Int) (hn : n = 0 ∨ n = 1 ∨ n = 2 ∨ n = 3 ∨ n = 4) (m0 : 0 ≤ m) (m1 : m < bShl 1 n) (o0 : 0 ≤ o) (o1 : o < n) : addM m o < bShl 1 n := by
  have hb : bShl 1 n ≤ 16 := by rcases hn with e | e | e | e | e <;> subst e <;> decide
  have h := fin_m (p := fun m o => (m < bShl 1 1 → o < 1 → addM m o < bShl 1 1) ∧ (m < bShl 1 2 → o < 2 → addM m o < bShl 1 2) ∧ (m < bShl 1 3 → o < 3 → addM m o < bShl 1 3) ∧ (m < bShl 1 4 → o < 4 → addM m o < bShl 1 4)) (by decide +kernel) m0 (show m < 16 by omega) o0 (show o < 4 by omega)
  rcases hn with e | e | e | e | e <;> subst e
  · omega
  · exact h.1 m1 o1
  · exact h.2.1 m1 o1
  · exact h.2.2.1 m1 o1
  · exact h.2.2.2 m1 o1
theorem all_many {m : Int} (n : Int) (hn : n = 0 ∨ n = 1 ∨ n = 2 ∨ n = 3 ∨ n = 4) (m0 : 0 ≤ m) (m1 : m < bShl 1 n) : m = bShl 1 n - 1 ↔ manyM m = n := by
  have hb : bShl 1 n ≤ 16 := by rcases hn with e | e | e | e | e <;> subst e <;> decide
  have h := fin_m (p := fun m _ => (m < bShl 1 0 → (m = bShl 1 0 - 1 ↔ manyM m = 0)) ∧ (m < bShl 1 1 → (m = bShl 1 1 - 1 ↔ manyM m = 1)) ∧ (m < bShl 1 2 → (m = bShl 1 2 - 1 ↔ manyM m = 2)) ∧ (m < bShl 1 3 → (m = bShl 1 3 - 1 ↔ manyM m = 3)) ∧ (m < bShl 1 4 → (m = bShl 1 4 - 1 ↔ manyM m = 4))) (by decide +kernel) m0 (show m < 16 by omega) (show (0 : Int) ≤ 0 by decide) (by decide)
  rcases hn with e | e | e | e | e <;> subst e
  · exact h.1 m1
  · exact h.2.1 m1
  · exact h.2.2.1 m1
  · exact h.2.2.2.1 m1
  · exact h.2.2.2.2 m1
abbrev opnP (c st : Int → Int) (m o : Int) : Prop := ¬ hasM m o ∧ (0 < st (c (12 + o * 6 + 1)) ∨ (c (12 + o * 6 + 0) = 0 ∧ 0 < st (c (12 + o * 6 + 3))))
def chS (c st tk og : Int → Int) (m : Int) (fx : Bool) : Nat → Int → Int → Int
  | 0, _, b => b
  | k + 1, i, b => chS c st tk og m fx k (i + 1) (if opnP c st m (og i) ∧ (b = -1 ∨ (fx = false ∧ tk b < tk (og i))) then og i else b)
def toOp (c st : Int → Int) (o : Int) : Int := if c (12 + o * 6 + 0) = 1 then -1 else if st (c (12 + o * 6 + 1)) = 0 then c (12 + o * 6 + 1) else if st (c (12 + o * 6 + 3)) = 0 then c (12 + o * 6 + 3) else -1
def fIn (c : Int → Int) (o r : Int) : Int := if c (12 + o * 6 + 1) = r then c (12 + o * 6 + 2) else c (12 + o * 6 + 4)
def vTh (c fd : Int → Int) (o r : Int) : Int := if c (12 + o * 6 + 1) = r then fd (c (12 + o * 6 + 3) * 2 + c (12 + o * 6 + 4)) else fd (c (12 + o * 6 + 1) * 2 + c (12 + o * 6 + 2))
def bkt (v : Int) : Int := (v * v * 7 + 3).tmod 5
def lkC (c : Int → Int) (r f b : Int) : Nat → Int → Int → Int
  | 0, _, x => x
  | k + 1, i, x => lkC c r f b k (i + 1) (if bkt (c (36 + (r * 9 + i) * 3 + f)) = b then x + 1 else x)
def lkS (c fd : Int → Int) (o r : Int) : Int := if c (6 + r) = fIn c o r then lkC c r (fIn c o r) (bkt (vTh c fd o r)) (c (9 + r)).toNat 0 0 else c (9 + r)
abbrev soS (c fd : Int → Int) (o : Int) : Prop := if c (12 + o * 6 + 0) = 0 then fd (c (12 + o * 6 + 1) * 2 + c (12 + o * 6 + 2)) = fd (c (12 + o * 6 + 3) * 2 + c (12 + o * 6 + 4)) else if c (12 + o * 6 + 3) = 0 then fd (c (12 + o * 6 + 1) * 2 + c (12 + o * 6 + 2)) < c (12 + o * 6 + 4) else if c (12 + o * 6 + 3) = 1 then fd (c (12 + o * 6 + 1) * 2 + c (12 + o * 6 + 2)) = c (12 + o * 6 + 4) else c (12 + o * 6 + 4) < fd (c (12 + o * 6 + 1) * 2 + c (12 + o * 6 + 2))
def addR (st : Int → Int) (s : tS) : tS := (s.1, (if s.2.2.2 1 < 99 then (fun j => if s.2.2.2 1 * 3 ≤ j ∧ j < s.2.2.2 1 * 3 + 3 then st (j - s.2.2.2 1 * 3) else s.2.1 j) else s.2.1), s.2.2.1, rUp s.2.2.2 1 (s.2.2.2 1 + 1))
def shutS (r : Int) (s : tS) : tS := (s.1, s.2.1, (if s.2.2.2 2 < 99 then rUp s.2.2.1 (s.2.2.2 2) r else s.2.2.1), rUp s.2.2.2 2 (s.2.2.2 2 + 1))
def bump (o v : Int) (s : tS) : tS := (rUp s.1 o (s.1 o + v), s.2)
def setX (k v : Int) (s : tS) : tS := (s.1, s.2.1, s.2.2.1, rUp s.2.2.2 k v)
def lpS (f : Int → tS → tS) (q : Int → Bool) : Nat → Int → tS → tS
  | 0, _, s => s
  | k + 1, i, s => if s.2.2.2 4 = 0 then lpS f q k (i + 1) (if q i = true then f i s else s) else s
def hdS (fd : Int → Int) (r a b : Int) : Int → Int := rUp (rUp fd (r * 2) a) (r * 2 + 1) b
def stOf (c st : Int → Int) (r i : Int) : Int → Int := rUp st r (c (36 + (r * 9 + i) * 3 + 2))
def fdOf (c fd : Int → Int) (r i : Int) : Int → Int := hdS fd r (c (36 + (r * 9 + i) * 3 + 0)) (c (36 + (r * 9 + i) * 3 + 1))
def szS (c st fd : Int → Int) (o : Int) : Int := if toOp c st o = -1 then 1 else lkS c fd o (toOp c st o)
def qS (c fd : Int → Int) (o r : Int) : Int → Bool := fun i => decide (c (36 + (r * 9 + i) * 3 + fIn c o r) = vTh c fd o r)
def pS (c : Int → Int) (cs : Int → Int → Int → Int → Int) (bud : Int) (og : Int → Int) (fx : Bool) : Nat → Int → Int → Int → (Int → Int) → (Int → Int) → tS → tS
  | 0, _, _, _, st, _, s => addR st s
  | k + 1, m, d, op, st, fd, s =>
    if chS c st s.1 og m fx (c 0).toNat 0 (-1) = -1 then s
    else if bud < s.2.2.2 0 + cs (chS c st s.1 og m fx (c 0).toNat 0 (-1)) (szS c st fd (chS c st s.1 og m fx (c 0).toNat 0 (-1))) (s.1 (chS c st s.1 og m fx (c 0).toNat 0 (-1))) d then setX 4 1 s
    else if toOp c st (chS c st s.1 og m fx (c 0).toNat 0 (-1)) = -1 then
      (if soS c fd (chS c st s.1 og m fx (c 0).toNat 0 (-1)) then pS c cs bud og fx k (addM m (chS c st s.1 og m fx (c 0).toNat 0 (-1))) (d + 1) op st fd (bump (chS c st s.1 og m fx (c 0).toNat 0 (-1)) (-1) (bump (chS c st s.1 og m fx (c 0).toNat 0 (-1)) 1 (setX 0 (s.2.2.2 0 + cs (chS c st s.1 og m fx (c 0).toNat 0 (-1)) (szS c st fd (chS c st s.1 og m fx (c 0).toNat 0 (-1))) (s.1 (chS c st s.1 og m fx (c 0).toNat 0 (-1))) d) s)))
       else bump (chS c st s.1 og m fx (c 0).toNat 0 (-1)) 1 (setX 0 (s.2.2.2 0 + cs (chS c st s.1 og m fx (c 0).toNat 0 (-1)) (szS c st fd (chS c st s.1 og m fx (c 0).toNat 0 (-1))) (s.1 (chS c st s.1 og m fx (c 0).toNat 0 (-1))) d) s))
    else shutS (toOp c st (chS c st s.1 og m fx (c 0).toNat 0 (-1))) (lpS (fun i s' => pS c cs bud og fx k (addM m (chS c st s.1 og m fx (c 0).toNat 0 (-1))) (d + 1) (op + 1) (stOf c st (toOp c st (chS c st s.1 og m fx (c 0).toNat 0 (-1))) i) (fdOf c fd (toOp c st (chS c st s.1 og m fx (c 0).toNat 0 (-1))) i) (bump (chS c st s.1 og m fx (c 0).toNat 0 (-1)) (-1) s')) (qS c fd (chS c st s.1 og m fx (c 0).toNat 0 (-1)) (toOp c st (chS c st s.1 og m fx (c 0).toNat 0 (-1)))) (c (9 + toOp c st (chS c st s.1 og m fx (c 0).toNat 0 (-1)))).toNat 0
      (setX 3 (max (s.2.2.2 3) (op + 1)) (bump (chS c st s.1 og m fx (c 0).toNat 0 (-1)) 1 (setX 0 (s.2.2.2 0 + cs (chS c st s.1 og m fx (c 0).toNat 0 (-1)) (szS c st fd (chS c st s.1 og m fx (c 0).toNat 0 (-1))) (s.1 (chS c st s.1 og m fx (c 0).toNat 0 (-1))) d) s))))
/-- the operator o takes a partial -/
def tkS (c : Int → Int) (cs : Int → Int → Int → Int → Int) (bud : Int) (og : Int → Int) (fx : Bool) (k : Nat) (o m d op : Int) (st fd : Int → Int) (s : tS) : tS :=
  if bud < s.2.2.2 0 + cs o (szS c st fd o) (s.1 o) d then setX 4 1 s
  else if toOp c st o = -1 then (if soS c fd o then pS c cs bud og fx k (addM m o) (d + 1) op st fd (bump o (-1) (bump o 1 (setX 0 (s.2.2.2 0 + cs o (szS c st fd o) (s.1 o) d) s))) else bump o 1 (setX 0 (s.2.2.2 0 + cs o (szS c st fd o) (s.1 o) d) s))
  else shutS (toOp c st o) (lpS (fun i s' => pS c cs bud og fx k (addM m o) (d + 1) (op + 1) (stOf c st (toOp c st o) i) (fdOf c fd (toOp c st o) i) (bump o (-1) s')) (qS c fd o (toOp c st o)) (c (9 + toOp c st o)).toNat 0 (setX 3 (max (s.2.2.2 3) (op + 1)) (bump o 1 (setX 0 (s.2.2.2 0 + cs o (szS c st fd o) (s.1 o) d) s))))
theorem pS_succ {c : Int → Int} {cs : Int → Int → Int → Int → Int} {bud : Int} {og : Int → Int} {fx : Bool} {k : Nat} {m d op : Int} {st fd : Int → Int} {s : tS} : pS c cs bud og fx (k + 1) m d op st fd s = if chS c st s.1 og m fx (c 0).toNat 0 (-1) = -1 then s else tkS c cs bud og fx k (chS c st s.1 og m fx (c 0).toNat 0 (-1)) m d op st fd s := rfl
/-! how far it can go -/
def Xb : Nat → Int
  | 0 => 1
  | k + 1 => 11 + 9 * Xb k
theorem Xb_pos (k : Nat) : 1 ≤ Xb k := by
  induction k with
  | zero => unfold Xb; omega
  | succ k ih => unfold Xb; omega
/-- tickets within T; cost, results, shuts within C -/
def SBd (s : tS) (T C : Int) : Prop := (∀ o, -T ≤ s.1 o ∧ s.1 o ≤ T) ∧ (0 ≤ s.2.2.2 0 ∧ s.2.2.2 0 ≤ 99 * C) ∧ (0 ≤ s.2.2.2 1 ∧ s.2.2.2 1 ≤ C) ∧ (0 ≤ s.2.2.2 2 ∧ s.2.2.2 2 ≤ C) ∧ (0 ≤ s.2.2.2 3 ∧ s.2.2.2 3 ≤ 9) ∧ (s.2.2.2 4 = 0 ∨ s.2.2.2 4 = 1)
theorem SBd.wide {s : tS} {T C T' C' : Int} (h : SBd s T C) (hT : T ≤ T') (hC : C ≤ C') : SBd s T' C' := by
  obtain ⟨h1, h2, h3, h4, h5, h6⟩ := h
  exact ⟨fun o => by have := h1 o; omega, by omega, by omega, by omega, h5, h6⟩
theorem SBd.bump {s : tS} {T C o v : Int} (h : SBd s T C) (hv : v = 1 ∨ v = -1) : SBd (bump o v s) (T + 1) C := by
  obtain ⟨h1, h2, h3, h4, h5, h6⟩ := h
  refine ⟨fun p => ?_, h2, h3, h4, h5, h6⟩
  show -(T + 1) ≤ rUp s.1 o (s.1 o + v) p ∧ rUp s.1 o (s.1 o + v) p ≤ T + 1
  have := h1 o
  have := h1 p
  unfold rUp
  split <;> omega
theorem SBd.cost {s : tS} {T C u : Int} (h : SBd s T C) (u0 : 0 ≤ u) (u1 : u ≤ 99) : SBd (setX 0 (s.2.2.2 0 + u) s) T (C + 1) := by
  obtain ⟨h1, h2, h3, h4, h5, h6⟩ := h
  refine ⟨h1, ?_, ?_, ?_, ?_, ?_⟩ <;> simp only [setX, rUpA, Int.reduceEq, reduceIte] <;> omega
theorem SBd.gu {s : tS} {T C : Int} (h : SBd s T C) : SBd (setX 4 1 s) T C := by
  obtain ⟨h1, h2, h3, h4, h5, h6⟩ := h
  refine ⟨h1, ?_, ?_, ?_, ?_, Or.inr (show rUp s.2.2.2 4 1 4 = 1 from rUp_s)⟩ <;> simp only [setX, rUpA, Int.reduceEq, reduceIte] <;> omega
theorem SBd.deep {s : tS} {T C x : Int} (h : SBd s T C) (x0 : 0 ≤ x) (x1 : x ≤ 9) : SBd (setX 3 (max (s.2.2.2 3) x) s) T C := by
  obtain ⟨h1, h2, h3, h4, h5, h6⟩ := h
  refine ⟨h1, ?_, ?_, ?_, ?_, ?_⟩ <;> simp only [setX, rUpA, Int.reduceEq, reduceIte] <;> omega
theorem SBd.res {s : tS} {T C : Int} {st : Int → Int} (h : SBd s T C) : SBd (addR st s) T (C + 1) := by
  obtain ⟨h1, h2, h3, h4, h5, h6⟩ := h
  refine ⟨h1, ?_, ?_, ?_, ?_, ?_⟩ <;> simp only [addR, rUpA, Int.reduceEq, reduceIte] <;> omega
theorem SBd.shut {s : tS} {T C r : Int} (h : SBd s T C) : SBd (shutS r s) T (C + 1) := by
  obtain ⟨h1, h2, h3, h4, h5, h6⟩ := h
  refine ⟨h1, ?_, ?_, ?_, ?_, ?_⟩ <;> simp only [shutS, rUpA, Int.reduceEq, reduceIte] <;> omega
theorem lp_bd {f : Int → tS → tS} {q : Int → Bool} {X : Int} (X0 : 0 ≤ X) (hf : ∀ i s T C, SBd s T C → SBd (f i s) (T + X) (C + X)) (k : Nat) : ∀ i s T C, SBd s T C → SBd (lpS f q k i s) (T + X * k) (C + X * k) := by
  induction k with
  | zero => intro i s T C h; unfold lpS; rw [show X * ((0 : Nat) : Int) = 0 by omega]; exact h.wide (by omega) (by omega)
  | succ k ih =>
    intro i s T C h
    have e : X * ((k + 1 : Nat) : Int) = X + X * k := by rw [show ((k + 1 : Nat) : Int) = 1 + k by omega, Int.mul_add, Int.mul_one]
    have p : 0 ≤ X * (k : Int) := Int.mul_nonneg X0 (by omega)
    unfold lpS
    rw [e]
    split
    · split
      · exact (ih (i + 1) _ _ _ (hf i s T C h)).wide (by omega) (by omega)
      · exact (ih (i + 1) _ _ _ h).wide (by omega) (by omega)
    · exact h.wide (by omega) (by omega)
