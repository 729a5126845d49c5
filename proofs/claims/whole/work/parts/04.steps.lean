theorem pst_cons {b : Nat} {stJ : List Value} {a : pV} {st : List pV} (h : stJ.map (pAbs b) = a :: st) : ∃ v r, stJ = v :: r ∧ pAbs b v = a ∧ r.map (pAbs b) = st := by
  cases stJ with
  | nil => simp at h
  | cons v r => simp only [List.map_cons, List.cons.injEq] at h; exact ⟨v, r, rfl, h.1, h.2⟩
theorem plv_at {b : Nat} {lvJ : List (Nat × Value)} {lv : List (Nat × pV)} (h : lvJ.map (fun q => (q.1, pAbs b q.2)) = lv) {k i : Nat} {a : pV} (hk : lv[k]? = some (i, a)) : ∃ v, lvJ[k]? = some (i, v) ∧ pAbs b v = a := by
  subst h
  rw [List.getElem?_map] at hk
  cases hq : lvJ[k]? with
  | none => rw [hq] at hk; cases hk
  | some x =>
    rw [hq] at hk
    obtain ⟨j, v⟩ := x
    simp only [Option.map_some, Option.some.injEq, Prod.mk.injEq] at hk
    exact ⟨v, by rw [hk.1], hk.2⟩
theorem pDec {M : pMeth} {k pc n : Nat} {i : Instr} (ok : pOkD M) (h : M.2.2.2.2[k]? = some (pc, i, n)) : decode M.2.1 pc = .ok (i, n) := by
  exact ok (pc, i, n) (List.mem_of_getElem? h)
theorem s_iadd {l : Launch} {G : pG} {d : Nat} {M : pMeth} {bg : Nat × Nat} {pc q : Nat} {lv : List (Nat × pV)} {st : List pV} {μ : pM} {Q : Option pV → pM → Prop} {x y : Int} (k : Nat) (hf : M.2.2.2.2[k]? = some (pc, .iadd, 1)) (h : PW l G d M bg q lv ((0, w32 (x + y)) :: st) μ Q) (hq : pc + 1 = q := by rfl) : PW l G d M bg pc lv ((0, y) :: (0, x) :: st) μ Q := by
  subst hq
  intro ok p e R s m args below meth c C Qc mc ms free H locs cells slots ls lvJ stJ ⟨h1, h2, h3, h4, h5, h6, h7, h8, h9, h10, h11, h12⟩
  obtain ⟨v0, r0, rfl, a0, hs0⟩ := pst_cons h10
  obtain ⟨jy, rfl, ey⟩ := pAbs_int a0
  obtain ⟨v1, r1, rfl, a1, hs1⟩ := pst_cons hs0
  obtain ⟨jx, rfl, ex⟩ := pAbs_int a1
  refine lv_iadd C.1 C.2.1 (pDec ok hf) ?_
  exact h ok p e R s m args below meth c C Qc mc ms free H locs cells slots ls lvJ _ ⟨h1, h2, h3, h4, h5, h6, h7, h8, h9, by simp only [List.map_cons, pAbs, i32_add, ey, ex, hs1], h11, h12⟩
theorem s_isub {l : Launch} {G : pG} {d : Nat} {M : pMeth} {bg : Nat × Nat} {pc q : Nat} {lv : List (Nat × pV)} {st : List pV} {μ : pM} {Q : Option pV → pM → Prop} {x y : Int} (k : Nat) (hf : M.2.2.2.2[k]? = some (pc, .isub, 1)) (h : PW l G d M bg q lv ((0, w32 (x - y)) :: st) μ Q) (hq : pc + 1 = q := by rfl) : PW l G d M bg pc lv ((0, y) :: (0, x) :: st) μ Q := by
  subst hq
  intro ok p e R s m args below meth c C Qc mc ms free H locs cells slots ls lvJ stJ ⟨h1, h2, h3, h4, h5, h6, h7, h8, h9, h10, h11, h12⟩
  obtain ⟨v0, r0, rfl, a0, hs0⟩ := pst_cons h10
  obtain ⟨jy, rfl, ey⟩ := pAbs_int a0
  obtain ⟨v1, r1, rfl, a1, hs1⟩ := pst_cons hs0
  obtain ⟨jx, rfl, ex⟩ := pAbs_int a1
  refine lv_isub C.1 C.2.1 (pDec ok hf) ?_
  exact h ok p e R s m args below meth c C Qc mc ms free H locs cells slots ls lvJ _ ⟨h1, h2, h3, h4, h5, h6, h7, h8, h9, by simp only [List.map_cons, pAbs, i32_sub, ey, ex, hs1], h11, h12⟩
theorem s_imul {l : Launch} {G : pG} {d : Nat} {M : pMeth} {bg : Nat × Nat} {pc q : Nat} {lv : List (Nat × pV)} {st : List pV} {μ : pM} {Q : Option pV → pM → Prop} {x y : Int} (k : Nat) (hf : M.2.2.2.2[k]? = some (pc, .imul, 1)) (h : PW l G d M bg q lv ((0, w32 (x * y)) :: st) μ Q) (hq : pc + 1 = q := by rfl) : PW l G d M bg pc lv ((0, y) :: (0, x) :: st) μ Q := by
  subst hq
  intro ok p e R s m args below meth c C Qc mc ms free H locs cells slots ls lvJ stJ ⟨h1, h2, h3, h4, h5, h6, h7, h8, h9, h10, h11, h12⟩
  obtain ⟨v0, r0, rfl, a0, hs0⟩ := pst_cons h10
  obtain ⟨jy, rfl, ey⟩ := pAbs_int a0
  obtain ⟨v1, r1, rfl, a1, hs1⟩ := pst_cons hs0
  obtain ⟨jx, rfl, ex⟩ := pAbs_int a1
  refine lv_imul C.1 C.2.1 (pDec ok hf) ?_
  exact h ok p e R s m args below meth c C Qc mc ms free H locs cells slots ls lvJ _ ⟨h1, h2, h3, h4, h5, h6, h7, h8, h9, by simp only [List.map_cons, pAbs, i32_mul, ey, ex, hs1], h11, h12⟩
theorem s_ladd {l : Launch} {G : pG} {d : Nat} {M : pMeth} {bg : Nat × Nat} {pc q : Nat} {lv : List (Nat × pV)} {st : List pV} {μ : pM} {Q : Option pV → pM → Prop} {x y : Int} (k : Nat) (hf : M.2.2.2.2[k]? = some (pc, .ladd, 1)) (h : PW l G d M bg q lv ((1, w64 (x + y)) :: st) μ Q) (hq : pc + 1 = q := by rfl) : PW l G d M bg pc lv ((1, y) :: (1, x) :: st) μ Q := by
  subst hq
  intro ok p e R s m args below meth c C Qc mc ms free H locs cells slots ls lvJ stJ ⟨h1, h2, h3, h4, h5, h6, h7, h8, h9, h10, h11, h12⟩
  obtain ⟨v0, r0, rfl, a0, hs0⟩ := pst_cons h10
  obtain ⟨jy, rfl, ey⟩ := pAbs_long a0
  obtain ⟨v1, r1, rfl, a1, hs1⟩ := pst_cons hs0
  obtain ⟨jx, rfl, ex⟩ := pAbs_long a1
  refine lv_ladd C.1 C.2.1 (pDec ok hf) ?_
  exact h ok p e R s m args below meth c C Qc mc ms free H locs cells slots ls lvJ _ ⟨h1, h2, h3, h4, h5, h6, h7, h8, h9, by simp only [List.map_cons, pAbs, i64_add, ey, ex, hs1], h11, h12⟩
theorem s_lsub {l : Launch} {G : pG} {d : Nat} {M : pMeth} {bg : Nat × Nat} {pc q : Nat} {lv : List (Nat × pV)} {st : List pV} {μ : pM} {Q : Option pV → pM → Prop} {x y : Int} (k : Nat) (hf : M.2.2.2.2[k]? = some (pc, .lsub, 1)) (h : PW l G d M bg q lv ((1, w64 (x - y)) :: st) μ Q) (hq : pc + 1 = q := by rfl) : PW l G d M bg pc lv ((1, y) :: (1, x) :: st) μ Q := by
  subst hq
  intro ok p e R s m args below meth c C Qc mc ms free H locs cells slots ls lvJ stJ ⟨h1, h2, h3, h4, h5, h6, h7, h8, h9, h10, h11, h12⟩
  obtain ⟨v0, r0, rfl, a0, hs0⟩ := pst_cons h10
  obtain ⟨jy, rfl, ey⟩ := pAbs_long a0
  obtain ⟨v1, r1, rfl, a1, hs1⟩ := pst_cons hs0
  obtain ⟨jx, rfl, ex⟩ := pAbs_long a1
  refine lv_lsub C.1 C.2.1 (pDec ok hf) ?_
  exact h ok p e R s m args below meth c C Qc mc ms free H locs cells slots ls lvJ _ ⟨h1, h2, h3, h4, h5, h6, h7, h8, h9, by simp only [List.map_cons, pAbs, i64_sub, ey, ex, hs1], h11, h12⟩
theorem s_lmul {l : Launch} {G : pG} {d : Nat} {M : pMeth} {bg : Nat × Nat} {pc q : Nat} {lv : List (Nat × pV)} {st : List pV} {μ : pM} {Q : Option pV → pM → Prop} {x y : Int} (k : Nat) (hf : M.2.2.2.2[k]? = some (pc, .lmul, 1)) (h : PW l G d M bg q lv ((1, w64 (x * y)) :: st) μ Q) (hq : pc + 1 = q := by rfl) : PW l G d M bg pc lv ((1, y) :: (1, x) :: st) μ Q := by
  subst hq
  intro ok p e R s m args below meth c C Qc mc ms free H locs cells slots ls lvJ stJ ⟨h1, h2, h3, h4, h5, h6, h7, h8, h9, h10, h11, h12⟩
  obtain ⟨v0, r0, rfl, a0, hs0⟩ := pst_cons h10
  obtain ⟨jy, rfl, ey⟩ := pAbs_long a0
  obtain ⟨v1, r1, rfl, a1, hs1⟩ := pst_cons hs0
  obtain ⟨jx, rfl, ex⟩ := pAbs_long a1
  refine lv_lmul C.1 C.2.1 (pDec ok hf) ?_
  exact h ok p e R s m args below meth c C Qc mc ms free H locs cells slots ls lvJ _ ⟨h1, h2, h3, h4, h5, h6, h7, h8, h9, by simp only [List.map_cons, pAbs, i64_mul, ey, ex, hs1], h11, h12⟩
theorem s_ineg {l : Launch} {G : pG} {d : Nat} {M : pMeth} {bg : Nat × Nat} {pc q : Nat} {lv : List (Nat × pV)} {st : List pV} {μ : pM} {Q : Option pV → pM → Prop} {x : Int} (k : Nat) (hf : M.2.2.2.2[k]? = some (pc, .ineg, 1)) (h : PW l G d M bg q lv ((0, w32 (-x)) :: st) μ Q) (hq : pc + 1 = q := by rfl) : PW l G d M bg pc lv ((0, x) :: st) μ Q := by
  subst hq
  intro ok p e R s m args below meth c C Qc mc ms free H locs cells slots ls lvJ stJ ⟨h1, h2, h3, h4, h5, h6, h7, h8, h9, h10, h11, h12⟩
  obtain ⟨v0, r0, rfl, a0, hs0⟩ := pst_cons h10
  obtain ⟨jx, rfl, ex⟩ := pAbs_int a0
  refine lv_ineg C.1 C.2.1 (pDec ok hf) ?_
  exact h ok p e R s m args below meth c C Qc mc ms free H locs cells slots ls lvJ _ ⟨h1, h2, h3, h4, h5, h6, h7, h8, h9, by simp only [List.map_cons, pAbs, i32_neg, ex, hs0], h11, h12⟩
theorem s_idiv {l : Launch} {G : pG} {d : Nat} {M : pMeth} {bg : Nat × Nat} {pc q : Nat} {lv : List (Nat × pV)} {st : List pV} {μ : pM} {Q : Option pV → pM → Prop} {x y : Int} (k : Nat) (hf : M.2.2.2.2[k]? = some (pc, .idiv, 1)) (hne : ¬ y = 0) (h : PW l G d M bg q lv ((0, w32 (x.tdiv y)) :: st) μ Q) (hq : pc + 1 = q := by rfl) : PW l G d M bg pc lv ((0, y) :: (0, x) :: st) μ Q := by
  subst hq
  intro ok p e R s m args below meth c C Qc mc ms free H locs cells slots ls lvJ stJ ⟨h1, h2, h3, h4, h5, h6, h7, h8, h9, h10, h11, h12⟩
  obtain ⟨v0, r0, rfl, a0, hs0⟩ := pst_cons h10
  obtain ⟨jy, rfl, ey⟩ := pAbs_int a0
  obtain ⟨v1, r1, rfl, a1, hs1⟩ := pst_cons hs0
  obtain ⟨jx, rfl, ex⟩ := pAbs_int a1
  refine lv_idiv C.1 C.2.1 (pDec ok hf) (fun z => hne (by rw [← ey, z]; rfl)) ?_
  exact h ok p e R s m args below meth c C Qc mc ms free H locs cells slots ls lvJ _ ⟨h1, h2, h3, h4, h5, h6, h7, h8, h9, by simp only [List.map_cons, pAbs, i32_div, ey, ex, hs1], h11, h12⟩
theorem s_irem {l : Launch} {G : pG} {d : Nat} {M : pMeth} {bg : Nat × Nat} {pc q : Nat} {lv : List (Nat × pV)} {st : List pV} {μ : pM} {Q : Option pV → pM → Prop} {x y : Int} (k : Nat) (hf : M.2.2.2.2[k]? = some (pc, .irem, 1)) (hne : ¬ y = 0) (h : PW l G d M bg q lv ((0, x.tmod y) :: st) μ Q) (hq : pc + 1 = q := by rfl) : PW l G d M bg pc lv ((0, y) :: (0, x) :: st) μ Q := by
  subst hq
  intro ok p e R s m args below meth c C Qc mc ms free H locs cells slots ls lvJ stJ ⟨h1, h2, h3, h4, h5, h6, h7, h8, h9, h10, h11, h12⟩
  obtain ⟨v0, r0, rfl, a0, hs0⟩ := pst_cons h10
  obtain ⟨jy, rfl, ey⟩ := pAbs_int a0
  obtain ⟨v1, r1, rfl, a1, hs1⟩ := pst_cons hs0
  obtain ⟨jx, rfl, ex⟩ := pAbs_int a1
  refine lv_irem C.1 C.2.1 (pDec ok hf) (fun z => hne (by rw [← ey, z]; rfl)) ?_
  exact h ok p e R s m args below meth c C Qc mc ms free H locs cells slots ls lvJ _ ⟨h1, h2, h3, h4, h5, h6, h7, h8, h9, by simp only [List.map_cons, pAbs, i32_rem, ey, ex, hs1], h11, h12⟩
theorem s_ldiv {l : Launch} {G : pG} {d : Nat} {M : pMeth} {bg : Nat × Nat} {pc q : Nat} {lv : List (Nat × pV)} {st : List pV} {μ : pM} {Q : Option pV → pM → Prop} {x y : Int} (k : Nat) (hf : M.2.2.2.2[k]? = some (pc, .ldiv, 1)) (hne : ¬ y = 0) (h : PW l G d M bg q lv ((1, w64 (x.tdiv y)) :: st) μ Q) (hq : pc + 1 = q := by rfl) : PW l G d M bg pc lv ((1, y) :: (1, x) :: st) μ Q := by
  subst hq
  intro ok p e R s m args below meth c C Qc mc ms free H locs cells slots ls lvJ stJ ⟨h1, h2, h3, h4, h5, h6, h7, h8, h9, h10, h11, h12⟩
  obtain ⟨v0, r0, rfl, a0, hs0⟩ := pst_cons h10
  obtain ⟨jy, rfl, ey⟩ := pAbs_long a0
  obtain ⟨v1, r1, rfl, a1, hs1⟩ := pst_cons hs0
  obtain ⟨jx, rfl, ex⟩ := pAbs_long a1
  refine lv_ldiv C.1 C.2.1 (pDec ok hf) (fun z => hne (by rw [← ey, z]; rfl)) ?_
  exact h ok p e R s m args below meth c C Qc mc ms free H locs cells slots ls lvJ _ ⟨h1, h2, h3, h4, h5, h6, h7, h8, h9, by simp only [List.map_cons, pAbs, i64_div, ey, ex, hs1], h11, h12⟩
theorem s_lrem {l : Launch} {G : pG} {d : Nat} {M : pMeth} {bg : Nat × Nat} {pc q : Nat} {lv : List (Nat × pV)} {st : List pV} {μ : pM} {Q : Option pV → pM → Prop} {x y : Int} (k : Nat) (hf : M.2.2.2.2[k]? = some (pc, .lrem, 1)) (hne : ¬ y = 0) (h : PW l G d M bg q lv ((1, x.tmod y) :: st) μ Q) (hq : pc + 1 = q := by rfl) : PW l G d M bg pc lv ((1, y) :: (1, x) :: st) μ Q := by
  subst hq
  intro ok p e R s m args below meth c C Qc mc ms free H locs cells slots ls lvJ stJ ⟨h1, h2, h3, h4, h5, h6, h7, h8, h9, h10, h11, h12⟩
  obtain ⟨v0, r0, rfl, a0, hs0⟩ := pst_cons h10
  obtain ⟨jy, rfl, ey⟩ := pAbs_long a0
  obtain ⟨v1, r1, rfl, a1, hs1⟩ := pst_cons hs0
  obtain ⟨jx, rfl, ex⟩ := pAbs_long a1
  refine lv_lrem C.1 C.2.1 (pDec ok hf) (fun z => hne (by rw [← ey, z]; rfl)) ?_
  exact h ok p e R s m args below meth c C Qc mc ms free H locs cells slots ls lvJ _ ⟨h1, h2, h3, h4, h5, h6, h7, h8, h9, by simp only [List.map_cons, pAbs, i64_rem, ey, ex, hs1], h11, h12⟩
def bAnd (x y : Int) : Int := (Int32.ofInt x &&& Int32.ofInt y).toInt
def bOr (x y : Int) : Int := (Int32.ofInt x ||| Int32.ofInt y).toInt
def bShl (x y : Int) : Int := (Int32.ofInt x <<< (Int32.ofInt y &&& 31)).toInt
def bShr (x y : Int) : Int := (Int32.ofInt x >>> (Int32.ofInt y &&& 31)).toInt
theorem i32_and (a b : Int32) : (a &&& b).toInt = bAnd a.toInt b.toInt := by simp [bAnd]
theorem i32_or (a b : Int32) : (a ||| b).toInt = bOr a.toInt b.toInt := by simp [bOr]
theorem i32_shl (a b : Int32) : (a <<< (b &&& 31)).toInt = bShl a.toInt b.toInt := by simp [bShl]
theorem i32_shr (a b : Int32) : (a >>> (b &&& 31)).toInt = bShr a.toInt b.toInt := by simp [bShr]
def lCmp (x y : Int) : Int := if y < x then 1 else if x = y then 0 else -1
theorem i64_cmp (a b : Int64) : (lg_cmp a b).toInt = lCmp a.toInt b.toInt := by
  unfold lg_cmp lCmp
  by_cases h1 : b < a
  · rw [if_pos h1, if_pos (Int64.lt_iff_toInt_lt.mp h1)]; rfl
  · rw [if_neg h1, if_neg (fun z => h1 (Int64.lt_iff_toInt_lt.mpr z))]
    by_cases h2 : a = b
    · rw [if_pos h2, if_pos (by rw [h2])]; rfl
    · rw [if_neg h2, if_neg (fun z => h2 (Int64.toInt_inj.mp z))]; rfl
theorem i32_i2l (a : Int32) : (a.toInt64).toInt = a.toInt := by simp
theorem i64_l2i (a : Int64) : (a.toInt32).toInt = w32 a.toInt := by rw [Int64.toInt_toInt32, bmod32]
theorem i32_i2b (a : Int32) : (a.toInt8.toInt32).toInt = w8 a.toInt := by rw [Int8.toInt_toInt32, Int32.toInt_toInt8, bmod8]
theorem s_iand {l : Launch} {G : pG} {d : Nat} {M : pMeth} {bg : Nat × Nat} {pc q : Nat} {lv : List (Nat × pV)} {st : List pV} {μ : pM} {Q : Option pV → pM → Prop} {x y : Int} (k : Nat) (hf : M.2.2.2.2[k]? = some (pc, .iand, 1)) (h : PW l G d M bg q lv ((0, bAnd x y) :: st) μ Q) (hq : pc + 1 = q := by rfl) : PW l G d M bg pc lv ((0, y) :: (0, x) :: st) μ Q := by
  subst hq
  intro ok p e R s m args below meth c C Qc mc ms free H locs cells slots ls lvJ stJ ⟨h1, h2, h3, h4, h5, h6, h7, h8, h9, h10, h11, h12⟩
  obtain ⟨v0, r0, rfl, a0, hs0⟩ := pst_cons h10
  obtain ⟨jy, rfl, ey⟩ := pAbs_int a0
  obtain ⟨v1, r1, rfl, a1, hs1⟩ := pst_cons hs0
  obtain ⟨jx, rfl, ex⟩ := pAbs_int a1
  refine lv_iand C.1 C.2.1 (pDec ok hf) ?_
  exact h ok p e R s m args below meth c C Qc mc ms free H locs cells slots ls lvJ _ ⟨h1, h2, h3, h4, h5, h6, h7, h8, h9, by simp only [List.map_cons, pAbs, i32_and, ey, ex, hs1], h11, h12⟩
theorem s_ior {l : Launch} {G : pG} {d : Nat} {M : pMeth} {bg : Nat × Nat} {pc q : Nat} {lv : List (Nat × pV)} {st : List pV} {μ : pM} {Q : Option pV → pM → Prop} {x y : Int} (k : Nat) (hf : M.2.2.2.2[k]? = some (pc, .ior, 1)) (h : PW l G d M bg q lv ((0, bOr x y) :: st) μ Q) (hq : pc + 1 = q := by rfl) : PW l G d M bg pc lv ((0, y) :: (0, x) :: st) μ Q := by
  subst hq
  intro ok p e R s m args below meth c C Qc mc ms free H locs cells slots ls lvJ stJ ⟨h1, h2, h3, h4, h5, h6, h7, h8, h9, h10, h11, h12⟩
  obtain ⟨v0, r0, rfl, a0, hs0⟩ := pst_cons h10
  obtain ⟨jy, rfl, ey⟩ := pAbs_int a0
  obtain ⟨v1, r1, rfl, a1, hs1⟩ := pst_cons hs0
  obtain ⟨jx, rfl, ex⟩ := pAbs_int a1
  refine lv_ior C.1 C.2.1 (pDec ok hf) ?_
  exact h ok p e R s m args below meth c C Qc mc ms free H locs cells slots ls lvJ _ ⟨h1, h2, h3, h4, h5, h6, h7, h8, h9, by simp only [List.map_cons, pAbs, i32_or, ey, ex, hs1], h11, h12⟩
theorem s_ishl {l : Launch} {G : pG} {d : Nat} {M : pMeth} {bg : Nat × Nat} {pc q : Nat} {lv : List (Nat × pV)} {st : List pV} {μ : pM} {Q : Option pV → pM → Prop} {x y : Int} (k : Nat) (hf : M.2.2.2.2[k]? = some (pc, .ishl, 1)) (h : PW l G d M bg q lv ((0, bShl x y) :: st) μ Q) (hq : pc + 1 = q := by rfl) : PW l G d M bg pc lv ((0, y) :: (0, x) :: st) μ Q := by
  subst hq
  intro ok p e R s m args below meth c C Qc mc ms free H locs cells slots ls lvJ stJ ⟨h1, h2, h3, h4, h5, h6, h7, h8, h9, h10, h11, h12⟩
  obtain ⟨v0, r0, rfl, a0, hs0⟩ := pst_cons h10
  obtain ⟨jy, rfl, ey⟩ := pAbs_int a0
  obtain ⟨v1, r1, rfl, a1, hs1⟩ := pst_cons hs0
  obtain ⟨jx, rfl, ex⟩ := pAbs_int a1
  refine lv_ishl C.1 C.2.1 (pDec ok hf) ?_
  exact h ok p e R s m args below meth c C Qc mc ms free H locs cells slots ls lvJ _ ⟨h1, h2, h3, h4, h5, h6, h7, h8, h9, by simp only [List.map_cons, pAbs, i32_shl, ey, ex, hs1], h11, h12⟩
theorem s_ishr {l : Launch} {G : pG} {d : Nat} {M : pMeth} {bg : Nat × Nat} {pc q : Nat} {lv : List (Nat × pV)} {st : List pV} {μ : pM} {Q : Option pV → pM → Prop} {x y : Int} (k : Nat) (hf : M.2.2.2.2[k]? = some (pc, .ishr, 1)) (h : PW l G d M bg q lv ((0, bShr x y) :: st) μ Q) (hq : pc + 1 = q := by rfl) : PW l G d M bg pc lv ((0, y) :: (0, x) :: st) μ Q := by
  subst hq
  intro ok p e R s m args below meth c C Qc mc ms free H locs cells slots ls lvJ stJ ⟨h1, h2, h3, h4, h5, h6, h7, h8, h9, h10, h11, h12⟩
  obtain ⟨v0, r0, rfl, a0, hs0⟩ := pst_cons h10
  obtain ⟨jy, rfl, ey⟩ := pAbs_int a0
  obtain ⟨v1, r1, rfl, a1, hs1⟩ := pst_cons hs0
  obtain ⟨jx, rfl, ex⟩ := pAbs_int a1
  refine lv_ishr C.1 C.2.1 (pDec ok hf) ?_
  exact h ok p e R s m args below meth c C Qc mc ms free H locs cells slots ls lvJ _ ⟨h1, h2, h3, h4, h5, h6, h7, h8, h9, by simp only [List.map_cons, pAbs, i32_shr, ey, ex, hs1], h11, h12⟩
theorem s_lcmp {l : Launch} {G : pG} {d : Nat} {M : pMeth} {bg : Nat × Nat} {pc q : Nat} {lv : List (Nat × pV)} {st : List pV} {μ : pM} {Q : Option pV → pM → Prop} {x y : Int} (k : Nat) (hf : M.2.2.2.2[k]? = some (pc, .lcmp, 1)) (h : PW l G d M bg q lv ((0, lCmp x y) :: st) μ Q) (hq : pc + 1 = q := by rfl) : PW l G d M bg pc lv ((1, y) :: (1, x) :: st) μ Q := by
  subst hq
  intro ok p e R s m args below meth c C Qc mc ms free H locs cells slots ls lvJ stJ ⟨h1, h2, h3, h4, h5, h6, h7, h8, h9, h10, h11, h12⟩
  obtain ⟨v0, r0, rfl, a0, hs0⟩ := pst_cons h10
  obtain ⟨jy, rfl, ey⟩ := pAbs_long a0
  obtain ⟨v1, r1, rfl, a1, hs1⟩ := pst_cons hs0
  obtain ⟨jx, rfl, ex⟩ := pAbs_long a1
  refine W.lcmp C.1 C.2.1 (pDec ok hf) ?_
  exact h ok p e R s m args below meth c C Qc mc ms free H locs cells slots ls lvJ _ ⟨h1, h2, h3, h4, h5, h6, h7, h8, h9, by simp only [List.map_cons, pAbs, i64_cmp, ey, ex, hs1], h11, h12⟩
theorem s_i2l {l : Launch} {G : pG} {d : Nat} {M : pMeth} {bg : Nat × Nat} {pc q : Nat} {lv : List (Nat × pV)} {st : List pV} {μ : pM} {Q : Option pV → pM → Prop} {x : Int} (k : Nat) (hf : M.2.2.2.2[k]? = some (pc, .i2l, 1)) (h : PW l G d M bg q lv ((1, x) :: st) μ Q) (hq : pc + 1 = q := by rfl) : PW l G d M bg pc lv ((0, x) :: st) μ Q := by
  subst hq
  intro ok p e R s m args below meth c C Qc mc ms free H locs cells slots ls lvJ stJ ⟨h1, h2, h3, h4, h5, h6, h7, h8, h9, h10, h11, h12⟩
  obtain ⟨v0, r0, rfl, a0, hs0⟩ := pst_cons h10
  obtain ⟨jx, rfl, ex⟩ := pAbs_int a0
  refine lv_i2l C.1 C.2.1 (pDec ok hf) rfl ?_
  exact h ok p e R s m args below meth c C Qc mc ms free H locs cells slots ls lvJ _ ⟨h1, h2, h3, h4, h5, h6, h7, h8, h9, by simp only [List.map_cons, pAbs, i32_i2l, ex, hs0], h11, h12⟩
theorem s_l2i {l : Launch} {G : pG} {d : Nat} {M : pMeth} {bg : Nat × Nat} {pc q : Nat} {lv : List (Nat × pV)} {st : List pV} {μ : pM} {Q : Option pV → pM → Prop} {x : Int} (k : Nat) (hf : M.2.2.2.2[k]? = some (pc, .l2i, 1)) (h : PW l G d M bg q lv ((0, w32 x) :: st) μ Q) (hq : pc + 1 = q := by rfl) : PW l G d M bg pc lv ((1, x) :: st) μ Q := by
  subst hq
  intro ok p e R s m args below meth c C Qc mc ms free H locs cells slots ls lvJ stJ ⟨h1, h2, h3, h4, h5, h6, h7, h8, h9, h10, h11, h12⟩
  obtain ⟨v0, r0, rfl, a0, hs0⟩ := pst_cons h10
  obtain ⟨jx, rfl, ex⟩ := pAbs_long a0
  refine lv_l2i C.1 C.2.1 (pDec ok hf) rfl ?_
  exact h ok p e R s m args below meth c C Qc mc ms free H locs cells slots ls lvJ _ ⟨h1, h2, h3, h4, h5, h6, h7, h8, h9, by simp only [List.map_cons, pAbs, i64_l2i, ex, hs0], h11, h12⟩
theorem s_i2b {l : Launch} {G : pG} {d : Nat} {M : pMeth} {bg : Nat × Nat} {pc q : Nat} {lv : List (Nat × pV)} {st : List pV} {μ : pM} {Q : Option pV → pM → Prop} {x : Int} (k : Nat) (hf : M.2.2.2.2[k]? = some (pc, .i2b, 1)) (h : PW l G d M bg q lv ((0, w8 x) :: st) μ Q) (hq : pc + 1 = q := by rfl) : PW l G d M bg pc lv ((0, x) :: st) μ Q := by
  subst hq
  intro ok p e R s m args below meth c C Qc mc ms free H locs cells slots ls lvJ stJ ⟨h1, h2, h3, h4, h5, h6, h7, h8, h9, h10, h11, h12⟩
  obtain ⟨v0, r0, rfl, a0, hs0⟩ := pst_cons h10
  obtain ⟨jx, rfl, ex⟩ := pAbs_int a0
  refine lv_i2b C.1 C.2.1 (pDec ok hf) rfl ?_
  exact h ok p e R s m args below meth c C Qc mc ms free H locs cells slots ls lvJ _ ⟨h1, h2, h3, h4, h5, h6, h7, h8, h9, by simp only [List.map_cons, pAbs, i32_i2b, ex, hs0], h11, h12⟩
theorem i8_of (n : Int) (h : (Int8.ofInt n).toInt = n) : ((Int8.ofInt n).toInt32).toInt = n := by rw [Int8.toInt_toInt32, h]
theorem i16_of (n : Int) (h : (Int16.ofInt n).toInt = n) : ((Int16.ofInt n).toInt32).toInt = n := by rw [Int16.toInt_toInt32, h]
theorem s_iconst {l : Launch} {G : pG} {d : Nat} {M : pMeth} {bg : Nat × Nat} {pc q : Nat} {lv : List (Nat × pV)} {st : List pV} {μ : pM} {Q : Option pV → pM → Prop} {n : Int} (k : Nat) (hf : M.2.2.2.2[k]? = some (pc, .iconst n, 1)) (h : PW l G d M bg q lv ((0, n) :: st) μ Q) (hq : pc + 1 = q := by rfl) (hn : (Int32.ofInt n).toInt = n := by decide) : PW l G d M bg pc lv st μ Q := by
  subst hq
  intro ok p e R s m args below meth c C Qc mc ms free H locs cells slots ls lvJ stJ ⟨h1, h2, h3, h4, h5, h6, h7, h8, h9, h10, h11, h12⟩
  refine lv_iconst C.1 C.2.1 (pDec ok hf) rfl ?_
  exact h ok p e R s m args below meth c C Qc mc ms free H locs cells slots ls lvJ _ ⟨h1, h2, h3, h4, h5, h6, h7, h8, h9, by simp only [List.map_cons, pAbs, hn, h10], h11, h12⟩
theorem s_bipush {l : Launch} {G : pG} {d : Nat} {M : pMeth} {bg : Nat × Nat} {pc q : Nat} {lv : List (Nat × pV)} {st : List pV} {μ : pM} {Q : Option pV → pM → Prop} {n : Int} (k : Nat) (hf : M.2.2.2.2[k]? = some (pc, .bipush n, 2)) (h : PW l G d M bg q lv ((0, n) :: st) μ Q) (hq : pc + 2 = q := by rfl) (hn : (Int8.ofInt n).toInt = n := by decide) : PW l G d M bg pc lv st μ Q := by
  subst hq
  intro ok p e R s m args below meth c C Qc mc ms free H locs cells slots ls lvJ stJ ⟨h1, h2, h3, h4, h5, h6, h7, h8, h9, h10, h11, h12⟩
  refine lv_bipush C.1 C.2.1 (pDec ok hf) rfl ?_
  exact h ok p e R s m args below meth c C Qc mc ms free H locs cells slots ls lvJ _ ⟨h1, h2, h3, h4, h5, h6, h7, h8, h9, by simp only [List.map_cons, pAbs, i8_of n hn, h10], h11, h12⟩
theorem s_sipush {l : Launch} {G : pG} {d : Nat} {M : pMeth} {bg : Nat × Nat} {pc q : Nat} {lv : List (Nat × pV)} {st : List pV} {μ : pM} {Q : Option pV → pM → Prop} {n : Int} (k : Nat) (hf : M.2.2.2.2[k]? = some (pc, .sipush n, 3)) (h : PW l G d M bg q lv ((0, n) :: st) μ Q) (hq : pc + 3 = q := by rfl) (hn : (Int16.ofInt n).toInt = n := by decide) : PW l G d M bg pc lv st μ Q := by
  subst hq
  intro ok p e R s m args below meth c C Qc mc ms free H locs cells slots ls lvJ stJ ⟨h1, h2, h3, h4, h5, h6, h7, h8, h9, h10, h11, h12⟩
  refine lv_sipush C.1 C.2.1 (pDec ok hf) rfl ?_
  exact h ok p e R s m args below meth c C Qc mc ms free H locs cells slots ls lvJ _ ⟨h1, h2, h3, h4, h5, h6, h7, h8, h9, by simp only [List.map_cons, pAbs, i16_of n hn, h10], h11, h12⟩
theorem s_lconst {l : Launch} {G : pG} {d : Nat} {M : pMeth} {bg : Nat × Nat} {pc q : Nat} {lv : List (Nat × pV)} {st : List pV} {μ : pM} {Q : Option pV → pM → Prop} {n : Fin 2} {x : Int} (k : Nat) (hf : M.2.2.2.2[k]? = some (pc, .lconst n, 1)) (h : PW l G d M bg q lv ((1, x) :: st) μ Q) (hq : pc + 1 = q := by rfl) (hn : (Int64.ofNat n.val).toInt = x := by decide) : PW l G d M bg pc lv st μ Q := by
  subst hq
  intro ok p e R s m args below meth c C Qc mc ms free H locs cells slots ls lvJ stJ ⟨h1, h2, h3, h4, h5, h6, h7, h8, h9, h10, h11, h12⟩
  refine lv_lconst C.1 C.2.1 (pDec ok hf) rfl ?_
  exact h ok p e R s m args below meth c C Qc mc ms free H locs cells slots ls lvJ _ ⟨h1, h2, h3, h4, h5, h6, h7, h8, h9, by simp only [List.map_cons, pAbs, hn, h10], h11, h12⟩
theorem s_null {l : Launch} {G : pG} {d : Nat} {M : pMeth} {bg : Nat × Nat} {pc q : Nat} {lv : List (Nat × pV)} {st : List pV} {μ : pM} {Q : Option pV → pM → Prop} (k : Nat) (hf : M.2.2.2.2[k]? = some (pc, .aconst_null, 1)) (h : PW l G d M bg q lv ((2, -1) :: st) μ Q) (hq : pc + 1 = q := by rfl) : PW l G d M bg pc lv st μ Q := by
  subst hq
  intro ok p e R s m args below meth c C Qc mc ms free H locs cells slots ls lvJ stJ ⟨h1, h2, h3, h4, h5, h6, h7, h8, h9, h10, h11, h12⟩
  refine lv_null C.1 C.2.1 (pDec ok hf) ?_
  exact h ok p e R s m args below meth c C Qc mc ms free H locs cells slots ls lvJ _ ⟨h1, h2, h3, h4, h5, h6, h7, h8, h9, by simp only [List.map_cons, pAbs, h10], h11, h12⟩
theorem s_ldc {l : Launch} {G : pG} {d : Nat} {M : pMeth} {bg : Nat × Nat} {pc q : Nat} {lv : List (Nat × pV)} {st : List pV} {μ : pM} {Q : Option pV → pM → Prop} {index : Nat} {v : Int32} {x : Int} (k : Nat) (hf : M.2.2.2.2[k]? = some (pc, .ldc index, 2)) (hw : Cond.constant M.1.cls index v ∈ lw_u) (h : PW l G d M bg q lv ((0, x) :: st) μ Q) (hq : pc + 2 = q := by rfl) (hn : v.toInt = x := by decide) : PW l G d M bg pc lv st μ Q := by
  subst hq
  intro ok p e R s m args below meth c C Qc mc ms free H locs cells slots ls lvJ stJ ⟨h1, h2, h3, h4, h5, h6, h7, h8, h9, h10, h11, h12⟩
  refine lv_ldc C.1 C.2.1 C.2.2.2.1 (C.2.2.2.2.1 _ hw) (pDec ok hf) ?_
  exact h ok p e R s m args below meth c C Qc mc ms free H locs cells slots ls lvJ _ ⟨h1, h2, h3, h4, h5, h6, h7, h8, h9, by simp only [List.map_cons, pAbs, hn, h10], h11, h12⟩
theorem s_ldcw {l : Launch} {G : pG} {d : Nat} {M : pMeth} {bg : Nat × Nat} {pc q : Nat} {lv : List (Nat × pV)} {st : List pV} {μ : pM} {Q : Option pV → pM → Prop} {index : Nat} {v : Int32} {x : Int} (k : Nat) (hf : M.2.2.2.2[k]? = some (pc, .ldc_w index, 3)) (hw : Cond.constant M.1.cls index v ∈ lw_u) (h : PW l G d M bg q lv ((0, x) :: st) μ Q) (hq : pc + 3 = q := by rfl) (hn : v.toInt = x := by decide) : PW l G d M bg pc lv st μ Q := by
  subst hq
  intro ok p e R s m args below meth c C Qc mc ms free H locs cells slots ls lvJ stJ ⟨h1, h2, h3, h4, h5, h6, h7, h8, h9, h10, h11, h12⟩
  refine lv_ldcw C.1 C.2.1 C.2.2.2.1 (C.2.2.2.2.1 _ hw) (pDec ok hf) ?_
  exact h ok p e R s m args below meth c C Qc mc ms free H locs cells slots ls lvJ _ ⟨h1, h2, h3, h4, h5, h6, h7, h8, h9, by simp only [List.map_cons, pAbs, hn, h10], h11, h12⟩
theorem s_ldc2 {l : Launch} {G : pG} {d : Nat} {M : pMeth} {bg : Nat × Nat} {pc q : Nat} {lv : List (Nat × pV)} {st : List pV} {μ : pM} {Q : Option pV → pM → Prop} {index : Nat} {v : Int64} {x : Int} (k : Nat) (hf : M.2.2.2.2[k]? = some (pc, .ldc2_w index, 3)) (hw : Cond.constantLong M.1.cls index v ∈ lw_u) (h : PW l G d M bg q lv ((1, x) :: st) μ Q) (hq : pc + 3 = q := by rfl) (hn : v.toInt = x := by decide) : PW l G d M bg pc lv st μ Q := by
  subst hq
  intro ok p e R s m args below meth c C Qc mc ms free H locs cells slots ls lvJ stJ ⟨h1, h2, h3, h4, h5, h6, h7, h8, h9, h10, h11, h12⟩
  refine lv_ldc2 C.1 C.2.1 C.2.2.2.1 (C.2.2.2.2.1 _ hw) (pDec ok hf) ?_
  exact h ok p e R s m args below meth c C Qc mc ms free H locs cells slots ls lvJ _ ⟨h1, h2, h3, h4, h5, h6, h7, h8, h9, by simp only [List.map_cons, pAbs, hn, h10], h11, h12⟩
theorem s_iload {l : Launch} {G : pG} {d : Nat} {M : pMeth} {bg : Nat × Nat} {pc q : Nat} {lv : List (Nat × pV)} {st : List pV} {μ : pM} {Q : Option pV → pM → Prop} {i : Nat} {x : Int} (k j : Nat) (hf : M.2.2.2.2[k]? = some (pc, .iload i, 2)) (hl : lv[j]? = some (i, (0, x))) (h : PW l G d M bg q lv ((0, x) :: st) μ Q) (hq : pc + 2 = q := by rfl) : PW l G d M bg pc lv st μ Q := by
  subst hq
  intro ok p e R s m args below meth c C Qc mc ms free H locs cells slots ls lvJ stJ ⟨h1, h2, h3, h4, h5, h6, h7, h8, h9, h10, h11, h12⟩
  obtain ⟨v, g1, g2⟩ := plv_at h9 hl
  obtain ⟨jx, rfl, ex⟩ := pAbs_int g2
  refine lv_iload C.1 C.2.1 (pDec ok hf) (lv_at h8 j g1) ?_
  exact h ok p e R s m args below meth c C Qc mc ms free H locs cells slots ls lvJ _ ⟨h1, h2, h3, h4, h5, h6, h7, h8, h9, by simp only [List.map_cons, pAbs, ex, h10], h11, h12⟩
theorem s_iload_n {l : Launch} {G : pG} {d : Nat} {M : pMeth} {bg : Nat × Nat} {pc q : Nat} {lv : List (Nat × pV)} {st : List pV} {μ : pM} {Q : Option pV → pM → Prop} {i : Nat} {n : Fin 4} {x : Int} (k j : Nat) (hf : M.2.2.2.2[k]? = some (pc, .iload_n n, 1)) (hl : lv[j]? = some (i, (0, x))) (h : PW l G d M bg q lv ((0, x) :: st) μ Q) (hq : pc + 1 = q := by rfl) (hi : n.val = i := by rfl) : PW l G d M bg pc lv st μ Q := by
  subst hq
  intro ok p e R s m args below meth c C Qc mc ms free H locs cells slots ls lvJ stJ ⟨h1, h2, h3, h4, h5, h6, h7, h8, h9, h10, h11, h12⟩
  obtain ⟨v, g1, g2⟩ := plv_at h9 hl
  obtain ⟨jx, rfl, ex⟩ := pAbs_int g2
  refine lv_iload_n C.1 C.2.1 (pDec ok hf) hi (lv_at h8 j g1) ?_
  exact h ok p e R s m args below meth c C Qc mc ms free H locs cells slots ls lvJ _ ⟨h1, h2, h3, h4, h5, h6, h7, h8, h9, by simp only [List.map_cons, pAbs, ex, h10], h11, h12⟩
theorem s_lload {l : Launch} {G : pG} {d : Nat} {M : pMeth} {bg : Nat × Nat} {pc q : Nat} {lv : List (Nat × pV)} {st : List pV} {μ : pM} {Q : Option pV → pM → Prop} {i : Nat} {x : Int} (k j : Nat) (hf : M.2.2.2.2[k]? = some (pc, .lload i, 2)) (hl : lv[j]? = some (i, (1, x))) (h : PW l G d M bg q lv ((1, x) :: st) μ Q) (hq : pc + 2 = q := by rfl) : PW l G d M bg pc lv st μ Q := by
  subst hq
  intro ok p e R s m args below meth c C Qc mc ms free H locs cells slots ls lvJ stJ ⟨h1, h2, h3, h4, h5, h6, h7, h8, h9, h10, h11, h12⟩
  obtain ⟨v, g1, g2⟩ := plv_at h9 hl
  obtain ⟨jx, rfl, ex⟩ := pAbs_long g2
  refine lv_lload C.1 C.2.1 (pDec ok hf) (lv_at h8 j g1) ?_
  exact h ok p e R s m args below meth c C Qc mc ms free H locs cells slots ls lvJ _ ⟨h1, h2, h3, h4, h5, h6, h7, h8, h9, by simp only [List.map_cons, pAbs, ex, h10], h11, h12⟩
theorem s_lload_n {l : Launch} {G : pG} {d : Nat} {M : pMeth} {bg : Nat × Nat} {pc q : Nat} {lv : List (Nat × pV)} {st : List pV} {μ : pM} {Q : Option pV → pM → Prop} {i : Nat} {n : Fin 4} {x : Int} (k j : Nat) (hf : M.2.2.2.2[k]? = some (pc, .lload_n n, 1)) (hl : lv[j]? = some (i, (1, x))) (h : PW l G d M bg q lv ((1, x) :: st) μ Q) (hq : pc + 1 = q := by rfl) (hi : n.val = i := by rfl) : PW l G d M bg pc lv st μ Q := by
  subst hq
  intro ok p e R s m args below meth c C Qc mc ms free H locs cells slots ls lvJ stJ ⟨h1, h2, h3, h4, h5, h6, h7, h8, h9, h10, h11, h12⟩
  obtain ⟨v, g1, g2⟩ := plv_at h9 hl
  obtain ⟨jx, rfl, ex⟩ := pAbs_long g2
  refine lv_lload_n C.1 C.2.1 (pDec ok hf) hi (lv_at h8 j g1) ?_
  exact h ok p e R s m args below meth c C Qc mc ms free H locs cells slots ls lvJ _ ⟨h1, h2, h3, h4, h5, h6, h7, h8, h9, by simp only [List.map_cons, pAbs, ex, h10], h11, h12⟩
theorem s_aload {l : Launch} {G : pG} {d : Nat} {M : pMeth} {bg : Nat × Nat} {pc q : Nat} {lv : List (Nat × pV)} {st : List pV} {μ : pM} {Q : Option pV → pM → Prop} {i : Nat} {x : Int} (k j : Nat) (hf : M.2.2.2.2[k]? = some (pc, .aload i, 2)) (hl : lv[j]? = some (i, (2, x))) (h : PW l G d M bg q lv ((2, x) :: st) μ Q) (hq : pc + 2 = q := by rfl) : PW l G d M bg pc lv st μ Q := by
  subst hq
  intro ok p e R s m args below meth c C Qc mc ms free H locs cells slots ls lvJ stJ ⟨h1, h2, h3, h4, h5, h6, h7, h8, h9, h10, h11, h12⟩
  obtain ⟨v, g1, g2⟩ := plv_at h9 hl
  have hk : W p l e R s m args below meth c H locs cells slots (MQ below Qc args s mc ms free) (F0 m (pc + 2) ls (v :: stJ)) := h ok p e R s m args below meth c C Qc mc ms free H locs cells slots ls lvJ _ ⟨h1, h2, h3, h4, h5, h6, h7, h8, h9, by simp only [List.map_cons, g2, h10], h11, h12⟩
  rcases pAbs_isref g2 with rfl | ⟨a, rfl⟩
  · exact lv_aloadN C.1 C.2.1 (pDec ok hf) (lv_at h8 j g1) hk
  · exact lv_aload C.1 C.2.1 (pDec ok hf) (lv_at h8 j g1) hk
theorem s_aload_n {l : Launch} {G : pG} {d : Nat} {M : pMeth} {bg : Nat × Nat} {pc q : Nat} {lv : List (Nat × pV)} {st : List pV} {μ : pM} {Q : Option pV → pM → Prop} {i : Nat} {n : Fin 4} {x : Int} (k j : Nat) (hf : M.2.2.2.2[k]? = some (pc, .aload_n n, 1)) (hl : lv[j]? = some (i, (2, x))) (h : PW l G d M bg q lv ((2, x) :: st) μ Q) (hq : pc + 1 = q := by rfl) (hi : n.val = i := by rfl) : PW l G d M bg pc lv st μ Q := by
  subst hq
  intro ok p e R s m args below meth c C Qc mc ms free H locs cells slots ls lvJ stJ ⟨h1, h2, h3, h4, h5, h6, h7, h8, h9, h10, h11, h12⟩
  obtain ⟨v, g1, g2⟩ := plv_at h9 hl
  have hk : W p l e R s m args below meth c H locs cells slots (MQ below Qc args s mc ms free) (F0 m (pc + 1) ls (v :: stJ)) := h ok p e R s m args below meth c C Qc mc ms free H locs cells slots ls lvJ _ ⟨h1, h2, h3, h4, h5, h6, h7, h8, h9, by simp only [List.map_cons, g2, h10], h11, h12⟩
  rcases pAbs_isref g2 with rfl | ⟨a, rfl⟩
  · exact lv_aload_nN C.1 C.2.1 (pDec ok hf) hi (lv_at h8 j g1) hk
  · exact lv_aload_n C.1 C.2.1 (pDec ok hf) hi (lv_at h8 j g1) hk
theorem plv_set {b : Nat} {lvJ : List (Nat × Value)} {lv : List (Nat × pV)} (h : lvJ.map (fun q => (q.1, pAbs b q.2)) = lv) (i : Nat) {v : Value} {a : pV} (hv : pAbs b v = a) (hc : ∀ q ∈ lv, q.2.1 < 3) :
    ((i, v) :: lvJ.filter (fun q => !(q.1 == i) && !(q.1 + 1 == i && q.2.category == 2))).map (fun q => (q.1, pAbs b q.2)) = (i, a) :: lv.filter (fun q => !(q.1 == i) && !(q.1 + 1 == i && q.2.1 == 1)) := by
  subst h
  rw [List.map_cons, hv]
  congr 1
  rw [List.filter_map]
  congr 1
  apply List.filter_congr
  intro q hq
  have h3 := hc _ (List.mem_map_of_mem (f := fun q => (q.1, pAbs b q.2)) hq)
  dsimp only at h3 ⊢
  have e := pAbs_cat (b := b) (v := q.2) (t := (pAbs b q.2).1) (x := (pAbs b q.2).2) rfl h3
  simp only [Function.comp]
  rw [e]
  by_cases h1 : (pAbs b q.2).1 = 1
  · simp [h1]
  · have h2 : ((pAbs b q.2).1 == 1) = false := by simpa using h1
    simp [h1, h2]
theorem plv_set2 {b : Nat} {lvJ : List (Nat × Value)} {lv : List (Nat × pV)} (h : lvJ.map (fun q => (q.1, pAbs b q.2)) = lv) (i : Nat) {v : Value} {a : pV} (hv : pAbs b v = a) (hc : ∀ q ∈ lv, q.2.1 < 3) :
    ((i, v) :: lvJ.filter (fun q => !(q.1 == i) && (!(q.1 == i + 1) && !(q.1 + 1 == i && q.2.category == 2)))).map (fun q => (q.1, pAbs b q.2)) = (i, a) :: lv.filter (fun q => !(q.1 == i) && (!(q.1 == i + 1) && !(q.1 + 1 == i && q.2.1 == 1))) := by
  subst h
  rw [List.map_cons, hv]
  congr 1
  rw [List.filter_map]
  congr 1
  apply List.filter_congr
  intro q hq
  have h3 := hc _ (List.mem_map_of_mem (f := fun q => (q.1, pAbs b q.2)) hq)
  dsimp only at h3 ⊢
  have e := pAbs_cat (b := b) (v := q.2) (t := (pAbs b q.2).1) (x := (pAbs b q.2).2) rfl h3
  simp only [Function.comp]
  rw [e]
  by_cases h1 : (pAbs b q.2).1 = 1
  · simp [h1]
  · have h2 : ((pAbs b q.2).1 == 1) = false := by simpa using h1
    simp [h1, h2]
theorem plv_ok {l : List (Nat × pV)} (h : l.all (fun q => q.2.1 < 3) = true) : ∀ q ∈ l, q.2.1 < 3 := fun q hq => by simpa using List.all_eq_true.mp h q hq
theorem s_istore {l : Launch} {G : pG} {d : Nat} {M : pMeth} {bg : Nat × Nat} {pc q : Nat} {lv : List (Nat × pV)} {st : List pV} {μ : pM} {Q : Option pV → pM → Prop} {i : Nat} {x : Int} {lv' : List (Nat × pV)} (k : Nat) (hf : M.2.2.2.2[k]? = some (pc, .istore i, 2)) (hl : (i, (0, x)) :: lv.filter (fun q => !(q.1 == i) && !(q.1 + 1 == i && q.2.1 == 1)) = lv') (h : PW l G d M bg q lv' st μ Q) (hq : pc + 2 = q := by rfl) (hn : i < M.2.2.1 := by decide) (hc : lv.all (fun q => q.2.1 < 3) = true := by rfl) : PW l G d M bg pc lv ((0, x) :: st) μ Q := by
  subst hq
  intro ok p e R s m args below meth c C Qc mc ms free H locs cells slots ls lvJ stJ ⟨h1, h2, h3, h4, h5, h6, h7, h8, h9, h10, h11, h12⟩
  obtain ⟨v0, r0, rfl, a0, hs⟩ := pst_cons h10
  obtain ⟨jx, rfl, ex⟩ := pAbs_int a0
  refine lv_istore C.1 C.2.1 (pDec ok hf) h8 hn rfl (fun ls' hls => ?_)
  exact h ok p e R s m args below meth c C Qc mc ms free H locs cells slots ls' _ _ ⟨h1, h2, h3, h4, h5, h6, h7, hls, hl ▸ plv_set h9 i a0 (plv_ok hc), hs, h11, h12⟩
theorem s_istore_n {l : Launch} {G : pG} {d : Nat} {M : pMeth} {bg : Nat × Nat} {pc q : Nat} {lv : List (Nat × pV)} {st : List pV} {μ : pM} {Q : Option pV → pM → Prop} {i : Nat} {n : Fin 4} {x : Int} {lv' : List (Nat × pV)} (k : Nat) (hf : M.2.2.2.2[k]? = some (pc, .istore_n n, 1)) (hl : (i, (0, x)) :: lv.filter (fun q => !(q.1 == i) && !(q.1 + 1 == i && q.2.1 == 1)) = lv') (h : PW l G d M bg q lv' st μ Q) (hq : pc + 1 = q := by rfl) (hi : n.val = i := by rfl) (hn : i < M.2.2.1 := by decide) (hc : lv.all (fun q => q.2.1 < 3) = true := by rfl) : PW l G d M bg pc lv ((0, x) :: st) μ Q := by
  subst hq
  intro ok p e R s m args below meth c C Qc mc ms free H locs cells slots ls lvJ stJ ⟨h1, h2, h3, h4, h5, h6, h7, h8, h9, h10, h11, h12⟩
  obtain ⟨v0, r0, rfl, a0, hs⟩ := pst_cons h10
  obtain ⟨jx, rfl, ex⟩ := pAbs_int a0
  refine lv_istore_n C.1 C.2.1 (pDec ok hf) hi h8 hn rfl (fun ls' hls => ?_)
  exact h ok p e R s m args below meth c C Qc mc ms free H locs cells slots ls' _ _ ⟨h1, h2, h3, h4, h5, h6, h7, hls, hl ▸ plv_set h9 i a0 (plv_ok hc), hs, h11, h12⟩
theorem s_lstore {l : Launch} {G : pG} {d : Nat} {M : pMeth} {bg : Nat × Nat} {pc q : Nat} {lv : List (Nat × pV)} {st : List pV} {μ : pM} {Q : Option pV → pM → Prop} {i : Nat} {x : Int} {lv' : List (Nat × pV)} (k : Nat) (hf : M.2.2.2.2[k]? = some (pc, .lstore i, 2)) (hl : (i, (1, x)) :: lv.filter (fun q => !(q.1 == i) && (!(q.1 == i + 1) && !(q.1 + 1 == i && q.2.1 == 1))) = lv') (h : PW l G d M bg q lv' st μ Q) (hq : pc + 2 = q := by rfl) (hn : i + 1 < M.2.2.1 := by decide) (hc : lv.all (fun q => q.2.1 < 3) = true := by rfl) : PW l G d M bg pc lv ((1, x) :: st) μ Q := by
  subst hq
  intro ok p e R s m args below meth c C Qc mc ms free H locs cells slots ls lvJ stJ ⟨h1, h2, h3, h4, h5, h6, h7, h8, h9, h10, h11, h12⟩
  obtain ⟨v0, r0, rfl, a0, hs⟩ := pst_cons h10
  obtain ⟨jx, rfl, ex⟩ := pAbs_long a0
  refine lv_lstore C.1 C.2.1 (pDec ok hf) h8 hn rfl (fun ls' hls => ?_)
  exact h ok p e R s m args below meth c C Qc mc ms free H locs cells slots ls' _ _ ⟨h1, h2, h3, h4, h5, h6, h7, hls, hl ▸ plv_set2 h9 i a0 (plv_ok hc), hs, h11, h12⟩
theorem s_lstore_n {l : Launch} {G : pG} {d : Nat} {M : pMeth} {bg : Nat × Nat} {pc q : Nat} {lv : List (Nat × pV)} {st : List pV} {μ : pM} {Q : Option pV → pM → Prop} {i : Nat} {n : Fin 4} {x : Int} {lv' : List (Nat × pV)} (k : Nat) (hf : M.2.2.2.2[k]? = some (pc, .lstore_n n, 1)) (hl : (i, (1, x)) :: lv.filter (fun q => !(q.1 == i) && (!(q.1 == i + 1) && !(q.1 + 1 == i && q.2.1 == 1))) = lv') (h : PW l G d M bg q lv' st μ Q) (hq : pc + 1 = q := by rfl) (hi : n.val = i := by rfl) (hn : i + 1 < M.2.2.1 := by decide) (hc : lv.all (fun q => q.2.1 < 3) = true := by rfl) : PW l G d M bg pc lv ((1, x) :: st) μ Q := by
  subst hq
  intro ok p e R s m args below meth c C Qc mc ms free H locs cells slots ls lvJ stJ ⟨h1, h2, h3, h4, h5, h6, h7, h8, h9, h10, h11, h12⟩
  obtain ⟨v0, r0, rfl, a0, hs⟩ := pst_cons h10
  obtain ⟨jx, rfl, ex⟩ := pAbs_long a0
  refine lv_lstore_n C.1 C.2.1 (pDec ok hf) hi h8 hn rfl (fun ls' hls => ?_)
  exact h ok p e R s m args below meth c C Qc mc ms free H locs cells slots ls' _ _ ⟨h1, h2, h3, h4, h5, h6, h7, hls, hl ▸ plv_set2 h9 i a0 (plv_ok hc), hs, h11, h12⟩
theorem s_astore {l : Launch} {G : pG} {d : Nat} {M : pMeth} {bg : Nat × Nat} {pc q : Nat} {lv : List (Nat × pV)} {st : List pV} {μ : pM} {Q : Option pV → pM → Prop} {i : Nat} {x : Int} {lv' : List (Nat × pV)} (k : Nat) (hf : M.2.2.2.2[k]? = some (pc, .astore i, 2)) (hl : (i, (2, x)) :: lv.filter (fun q => !(q.1 == i) && !(q.1 + 1 == i && q.2.1 == 1)) = lv') (h : PW l G d M bg q lv' st μ Q) (hq : pc + 2 = q := by rfl) (hn : i < M.2.2.1 := by decide) (hc : lv.all (fun q => q.2.1 < 3) = true := by rfl) : PW l G d M bg pc lv ((2, x) :: st) μ Q := by
  subst hq
  intro ok p e R s m args below meth c C Qc mc ms free H locs cells slots ls lvJ stJ ⟨h1, h2, h3, h4, h5, h6, h7, h8, h9, h10, h11, h12⟩
  obtain ⟨v0, r0, rfl, a0, hs⟩ := pst_cons h10
  rcases pAbs_isref a0 with rfl | ⟨a, rfl⟩
  · refine lv_astoreN C.1 C.2.1 (pDec ok hf) h8 hn rfl (fun ls' hls => ?_)
    exact h ok p e R s m args below meth c C Qc mc ms free H locs cells slots ls' _ _ ⟨h1, h2, h3, h4, h5, h6, h7, hls, hl ▸ plv_set h9 i a0 (plv_ok hc), hs, h11, h12⟩
  · refine lv_astore C.1 C.2.1 (pDec ok hf) h8 hn rfl (fun ls' hls => ?_)
    exact h ok p e R s m args below meth c C Qc mc ms free H locs cells slots ls' _ _ ⟨h1, h2, h3, h4, h5, h6, h7, hls, hl ▸ plv_set h9 i a0 (plv_ok hc), hs, h11, h12⟩
theorem s_astore_n {l : Launch} {G : pG} {d : Nat} {M : pMeth} {bg : Nat × Nat} {pc q : Nat} {lv : List (Nat × pV)} {st : List pV} {μ : pM} {Q : Option pV → pM → Prop} {i : Nat} {n : Fin 4} {x : Int} {lv' : List (Nat × pV)} (k : Nat) (hf : M.2.2.2.2[k]? = some (pc, .astore_n n, 1)) (hl : (i, (2, x)) :: lv.filter (fun q => !(q.1 == i) && !(q.1 + 1 == i && q.2.1 == 1)) = lv') (h : PW l G d M bg q lv' st μ Q) (hq : pc + 1 = q := by rfl) (hi : n.val = i := by rfl) (hn : i < M.2.2.1 := by decide) (hc : lv.all (fun q => q.2.1 < 3) = true := by rfl) : PW l G d M bg pc lv ((2, x) :: st) μ Q := by
  subst hq
  intro ok p e R s m args below meth c C Qc mc ms free H locs cells slots ls lvJ stJ ⟨h1, h2, h3, h4, h5, h6, h7, h8, h9, h10, h11, h12⟩
  obtain ⟨v0, r0, rfl, a0, hs⟩ := pst_cons h10
  rcases pAbs_isref a0 with rfl | ⟨a, rfl⟩
  · refine lv_astore_nN C.1 C.2.1 (pDec ok hf) hi h8 hn rfl (fun ls' hls => ?_)
    exact h ok p e R s m args below meth c C Qc mc ms free H locs cells slots ls' _ _ ⟨h1, h2, h3, h4, h5, h6, h7, hls, hl ▸ plv_set h9 i a0 (plv_ok hc), hs, h11, h12⟩
  · refine lv_astore_n C.1 C.2.1 (pDec ok hf) hi h8 hn rfl (fun ls' hls => ?_)
    exact h ok p e R s m args below meth c C Qc mc ms free H locs cells slots ls' _ _ ⟨h1, h2, h3, h4, h5, h6, h7, hls, hl ▸ plv_set h9 i a0 (plv_ok hc), hs, h11, h12⟩
theorem s_iinc {l : Launch} {G : pG} {d : Nat} {M : pMeth} {bg : Nat × Nat} {pc q : Nat} {lv : List (Nat × pV)} {st : List pV} {μ : pM} {Q : Option pV → pM → Prop} {i : Nat} {n x : Int} {lv' : List (Nat × pV)} (k j : Nat) (hf : M.2.2.2.2[k]? = some (pc, .iinc i n, 3)) (hj : lv[j]? = some (i, (0, x))) (hl : (i, (0, w32 (x + n))) :: lv.filter (fun q => !(q.1 == i) && !(q.1 + 1 == i && q.2.1 == 1)) = lv') (h : PW l G d M bg q lv' st μ Q) (hq : pc + 3 = q := by rfl) (hn : i < M.2.2.1 := by decide) (hc : lv.all (fun q => q.2.1 < 3) = true := by rfl) (hz : (Int32.ofInt n).toInt = n := by decide) : PW l G d M bg pc lv st μ Q := by
  subst hq
  intro ok p e R s m args below meth c C Qc mc ms free H locs cells slots ls lvJ stJ ⟨h1, h2, h3, h4, h5, h6, h7, h8, h9, h10, h11, h12⟩
  obtain ⟨v, g1, g2⟩ := plv_at h9 hj
  obtain ⟨jx, rfl, ex⟩ := pAbs_int g2
  refine lv_iinc C.1 C.2.1 (pDec ok hf) h8 g1 rfl hn rfl (fun ls' hls => ?_)
  exact h ok p e R s m args below meth c C Qc mc ms free H locs cells slots ls' _ _ ⟨h1, h2, h3, h4, h5, h6, h7, hls, hl ▸ plv_set h9 i (a := (0, w32 (x + n))) (by simp only [pAbs, i32_add, ex, hz]) (plv_ok hc), h10, h11, h12⟩
theorem s_dup {l : Launch} {G : pG} {d : Nat} {M : pMeth} {bg : Nat × Nat} {pc q : Nat} {lv : List (Nat × pV)} {st : List pV} {μ : pM} {Q : Option pV → pM → Prop} {a : pV} (k : Nat) (hf : M.2.2.2.2[k]? = some (pc, .dup, 1)) (h : PW l G d M bg q lv (a :: a :: st) μ Q) (hq : pc + 1 = q := by rfl) (ha : a.1 = 0 ∨ a.1 = 2 := by first | exact Or.inl rfl | exact Or.inr rfl) : PW l G d M bg pc lv (a :: st) μ Q := by
  subst hq
  intro ok p e R s m args below meth c C Qc mc ms free H locs cells slots ls lvJ stJ ⟨h1, h2, h3, h4, h5, h6, h7, h8, h9, h10, h11, h12⟩
  obtain ⟨v0, r0, rfl, a0, hs⟩ := pst_cons h10
  refine lv_dup C.1 C.2.1 (pDec ok hf) (by rw [pAbs_cat (t := a.1) (x := a.2) a0 (by omega), if_neg (by omega)]) ?_
  exact h ok p e R s m args below meth c C Qc mc ms free H locs cells slots ls lvJ _ ⟨h1, h2, h3, h4, h5, h6, h7, h8, h9, by simp only [List.map_cons, a0, hs], h11, h12⟩
theorem s_pop {l : Launch} {G : pG} {d : Nat} {M : pMeth} {bg : Nat × Nat} {pc q : Nat} {lv : List (Nat × pV)} {st : List pV} {μ : pM} {Q : Option pV → pM → Prop} {a : pV} (k : Nat) (hf : M.2.2.2.2[k]? = some (pc, .pop, 1)) (h : PW l G d M bg q lv st μ Q) (hq : pc + 1 = q := by rfl) (ha : a.1 = 0 ∨ a.1 = 2 := by first | exact Or.inl rfl | exact Or.inr rfl) : PW l G d M bg pc lv (a :: st) μ Q := by
  subst hq
  intro ok p e R s m args below meth c C Qc mc ms free H locs cells slots ls lvJ stJ ⟨h1, h2, h3, h4, h5, h6, h7, h8, h9, h10, h11, h12⟩
  obtain ⟨v0, r0, rfl, a0, hs⟩ := pst_cons h10
  refine lv_pop C.1 C.2.1 (pDec ok hf) (by rw [pAbs_cat (t := a.1) (x := a.2) a0 (by omega), if_neg (by omega)]) ?_
  exact h ok p e R s m args below meth c C Qc mc ms free H locs cells slots ls lvJ _ ⟨h1, h2, h3, h4, h5, h6, h7, h8, h9, hs, h11, h12⟩
theorem s_dup2 {l : Launch} {G : pG} {d : Nat} {M : pMeth} {bg : Nat × Nat} {pc q : Nat} {lv : List (Nat × pV)} {st : List pV} {μ : pM} {Q : Option pV → pM → Prop} {a b : pV} (k : Nat) (hf : M.2.2.2.2[k]? = some (pc, .dup2, 1)) (h : PW l G d M bg q lv (a :: b :: a :: b :: st) μ Q) (hq : pc + 1 = q := by rfl) (ha : a.1 = 0 ∨ a.1 = 2 := by first | exact Or.inl rfl | exact Or.inr rfl) (hb : b.1 = 0 ∨ b.1 = 2 := by first | exact Or.inl rfl | exact Or.inr rfl) : PW l G d M bg pc lv (a :: b :: st) μ Q := by
  subst hq
  intro ok p e R s m args below meth c C Qc mc ms free H locs cells slots ls lvJ stJ ⟨h1, h2, h3, h4, h5, h6, h7, h8, h9, h10, h11, h12⟩
  obtain ⟨v0, r0, rfl, a0, hs0⟩ := pst_cons h10
  obtain ⟨v1, r1, rfl, a1, hs⟩ := pst_cons hs0
  refine lv_dup2_11 C.1 C.2.1 (pDec ok hf) (by rw [pAbs_cat (t := a.1) (x := a.2) a0 (by omega), if_neg (by omega)]) (by rw [pAbs_cat (t := b.1) (x := b.2) a1 (by omega), if_neg (by omega)]) ?_
  exact h ok p e R s m args below meth c C Qc mc ms free H locs cells slots ls lvJ _ ⟨h1, h2, h3, h4, h5, h6, h7, h8, h9, by simp only [List.map_cons, a0, a1, hs], h11, h12⟩
theorem i32_eq0 {i : Int32} {x : Int} (e : i.toInt = x) : i = 0 ↔ x = 0 := ⟨fun h => by rw [← e, h]; rfl, fun h => Int32.toInt_inj.mp (by rw [e, h]; rfl)⟩
theorem i32_eqv {i j : Int32} {x y : Int} (e : i.toInt = x) (f : j.toInt = y) : i = j ↔ x = y := ⟨fun h => by rw [← e, ← f, h], fun h => Int32.toInt_inj.mp (by rw [e, f, h])⟩
theorem i32_ltv {i j : Int32} {x y : Int} (e : i.toInt = x) (f : j.toInt = y) : i < j ↔ x < y := by rw [Int32.lt_iff_toInt_lt, e, f]
theorem i32_lev {i j : Int32} {x y : Int} (e : i.toInt = x) (f : j.toInt = y) : i ≤ j ↔ x ≤ y := by rw [Int32.le_iff_toInt_le, e, f]
theorem i32_z : (0 : Int32).toInt = 0 := rfl
theorem s_if_eq {l : Launch} {G : pG} {d : Nat} {M : pMeth} {bg : Nat × Nat} {pc q : Nat} {lv : List (Nat × pV)} {st : List pV} {μ : pM} {Q : Option pV → pM → Prop} {off : Int} {tgt : Nat} {x : Int} (k : Nat) (hf : M.2.2.2.2[k]? = some (pc, .ifCond .eq off, 3)) (ht : (pc : Int) + off = (tgt : Int)) (hy : x = 0 → PW l G d M bg tgt lv st μ Q) (hno : ¬ (x = 0) → PW l G d M bg q lv st μ Q) (hq : pc + 3 = q := by rfl) : PW l G d M bg pc lv ((0, x) :: st) μ Q := by
  subst hq
  intro ok p e R s m args below meth c C Qc mc ms free H locs cells slots ls lvJ stJ ⟨h1, h2, h3, h4, h5, h6, h7, h8, h9, h10, h11, h12⟩
  obtain ⟨v0, r0, rfl, a0, hs⟩ := pst_cons h10
  obtain ⟨jx, rfl, ex⟩ := pAbs_int a0
  have eqv := i32_eqv ex i32_z
  refine lv_if_eq C.1 C.2.1 (pDec ok hf) ht (fun g => ?_) (fun g => ?_)
  · exact hy (by first | exact eqv.mp g | exact fun z => g (eqv.mpr z) | omega) ok p e R s m args below meth c C Qc mc ms free H locs cells slots ls lvJ _ ⟨h1, h2, h3, h4, h5, h6, h7, h8, h9, hs, h11, h12⟩
  · exact hno (by first | exact fun z => g (eqv.mpr z) | exact fun z => z (eqv.mp g) | (intro z; have := eqv.mpr; first | exact g (this z) | (have gg := eqv.mp; omega))) ok p e R s m args below meth c C Qc mc ms free H locs cells slots ls lvJ _ ⟨h1, h2, h3, h4, h5, h6, h7, h8, h9, hs, h11, h12⟩
theorem s_icmp_eq {l : Launch} {G : pG} {d : Nat} {M : pMeth} {bg : Nat × Nat} {pc q : Nat} {lv : List (Nat × pV)} {st : List pV} {μ : pM} {Q : Option pV → pM → Prop} {off : Int} {tgt : Nat} {x y : Int} (k : Nat) (hf : M.2.2.2.2[k]? = some (pc, .if_icmp .eq off, 3)) (ht : (pc : Int) + off = (tgt : Int)) (hy : x = y → PW l G d M bg tgt lv st μ Q) (hno : ¬ (x = y) → PW l G d M bg q lv st μ Q) (hq : pc + 3 = q := by rfl) : PW l G d M bg pc lv ((0, y) :: (0, x) :: st) μ Q := by
  subst hq
  intro ok p e R s m args below meth c C Qc mc ms free H locs cells slots ls lvJ stJ ⟨h1, h2, h3, h4, h5, h6, h7, h8, h9, h10, h11, h12⟩
  obtain ⟨v1, r1, rfl, a1, hs1⟩ := pst_cons h10
  obtain ⟨jy, rfl, ey⟩ := pAbs_int a1
  obtain ⟨v0, r0, rfl, a0, hs⟩ := pst_cons hs1
  obtain ⟨jx, rfl, ex⟩ := pAbs_int a0
  have eqv := i32_eqv ex ey
  refine lv_icmp_eq C.1 C.2.1 (pDec ok hf) ht (fun g => ?_) (fun g => ?_)
  · exact hy (by first | exact eqv.mp g | exact fun z => g (eqv.mpr z) | omega) ok p e R s m args below meth c C Qc mc ms free H locs cells slots ls lvJ _ ⟨h1, h2, h3, h4, h5, h6, h7, h8, h9, hs, h11, h12⟩
  · exact hno (by first | exact fun z => g (eqv.mpr z) | exact fun z => z (eqv.mp g) | (intro z; have := eqv.mpr; first | exact g (this z) | (have gg := eqv.mp; omega))) ok p e R s m args below meth c C Qc mc ms free H locs cells slots ls lvJ _ ⟨h1, h2, h3, h4, h5, h6, h7, h8, h9, hs, h11, h12⟩
theorem s_if_ne {l : Launch} {G : pG} {d : Nat} {M : pMeth} {bg : Nat × Nat} {pc q : Nat} {lv : List (Nat × pV)} {st : List pV} {μ : pM} {Q : Option pV → pM → Prop} {off : Int} {tgt : Nat} {x : Int} (k : Nat) (hf : M.2.2.2.2[k]? = some (pc, .ifCond .ne off, 3)) (ht : (pc : Int) + off = (tgt : Int)) (hy : ¬ x = 0 → PW l G d M bg tgt lv st μ Q) (hno : ¬ (¬ x = 0) → PW l G d M bg q lv st μ Q) (hq : pc + 3 = q := by rfl) : PW l G d M bg pc lv ((0, x) :: st) μ Q := by
  subst hq
  intro ok p e R s m args below meth c C Qc mc ms free H locs cells slots ls lvJ stJ ⟨h1, h2, h3, h4, h5, h6, h7, h8, h9, h10, h11, h12⟩
  obtain ⟨v0, r0, rfl, a0, hs⟩ := pst_cons h10
  obtain ⟨jx, rfl, ex⟩ := pAbs_int a0
  have eqv := i32_eqv ex i32_z
  refine lv_if_ne C.1 C.2.1 (pDec ok hf) ht (fun g => ?_) (fun g => ?_)
  · exact hy (by first | exact eqv.mp g | exact fun z => g (eqv.mpr z) | omega) ok p e R s m args below meth c C Qc mc ms free H locs cells slots ls lvJ _ ⟨h1, h2, h3, h4, h5, h6, h7, h8, h9, hs, h11, h12⟩
  · exact hno (by first | exact fun z => g (eqv.mpr z) | exact fun z => z (eqv.mp g) | (intro z; have := eqv.mpr; first | exact g (this z) | (have gg := eqv.mp; omega))) ok p e R s m args below meth c C Qc mc ms free H locs cells slots ls lvJ _ ⟨h1, h2, h3, h4, h5, h6, h7, h8, h9, hs, h11, h12⟩
theorem s_icmp_ne {l : Launch} {G : pG} {d : Nat} {M : pMeth} {bg : Nat × Nat} {pc q : Nat} {lv : List (Nat × pV)} {st : List pV} {μ : pM} {Q : Option pV → pM → Prop} {off : Int} {tgt : Nat} {x y : Int} (k : Nat) (hf : M.2.2.2.2[k]? = some (pc, .if_icmp .ne off, 3)) (ht : (pc : Int) + off = (tgt : Int)) (hy : ¬ x = y → PW l G d M bg tgt lv st μ Q) (hno : ¬ (¬ x = y) → PW l G d M bg q lv st μ Q) (hq : pc + 3 = q := by rfl) : PW l G d M bg pc lv ((0, y) :: (0, x) :: st) μ Q := by
  subst hq
  intro ok p e R s m args below meth c C Qc mc ms free H locs cells slots ls lvJ stJ ⟨h1, h2, h3, h4, h5, h6, h7, h8, h9, h10, h11, h12⟩
  obtain ⟨v1, r1, rfl, a1, hs1⟩ := pst_cons h10
  obtain ⟨jy, rfl, ey⟩ := pAbs_int a1
  obtain ⟨v0, r0, rfl, a0, hs⟩ := pst_cons hs1
  obtain ⟨jx, rfl, ex⟩ := pAbs_int a0
  have eqv := i32_eqv ex ey
  refine lv_icmp_ne C.1 C.2.1 (pDec ok hf) ht (fun g => ?_) (fun g => ?_)
  · exact hy (by first | exact eqv.mp g | exact fun z => g (eqv.mpr z) | omega) ok p e R s m args below meth c C Qc mc ms free H locs cells slots ls lvJ _ ⟨h1, h2, h3, h4, h5, h6, h7, h8, h9, hs, h11, h12⟩
  · exact hno (by first | exact fun z => g (eqv.mpr z) | exact fun z => z (eqv.mp g) | (intro z; have := eqv.mpr; first | exact g (this z) | (have gg := eqv.mp; omega))) ok p e R s m args below meth c C Qc mc ms free H locs cells slots ls lvJ _ ⟨h1, h2, h3, h4, h5, h6, h7, h8, h9, hs, h11, h12⟩
theorem s_if_lt {l : Launch} {G : pG} {d : Nat} {M : pMeth} {bg : Nat × Nat} {pc q : Nat} {lv : List (Nat × pV)} {st : List pV} {μ : pM} {Q : Option pV → pM → Prop} {off : Int} {tgt : Nat} {x : Int} (k : Nat) (hf : M.2.2.2.2[k]? = some (pc, .ifCond .lt off, 3)) (ht : (pc : Int) + off = (tgt : Int)) (hy : x < 0 → PW l G d M bg tgt lv st μ Q) (hno : ¬ (x < 0) → PW l G d M bg q lv st μ Q) (hq : pc + 3 = q := by rfl) : PW l G d M bg pc lv ((0, x) :: st) μ Q := by
  subst hq
  intro ok p e R s m args below meth c C Qc mc ms free H locs cells slots ls lvJ stJ ⟨h1, h2, h3, h4, h5, h6, h7, h8, h9, h10, h11, h12⟩
  obtain ⟨v0, r0, rfl, a0, hs⟩ := pst_cons h10
  obtain ⟨jx, rfl, ex⟩ := pAbs_int a0
  have eqv := i32_ltv ex i32_z
  refine lv_if_lt C.1 C.2.1 (pDec ok hf) ht (fun g => ?_) (fun g => ?_)
  · exact hy (by first | exact eqv.mp g | exact fun z => g (eqv.mpr z) | omega) ok p e R s m args below meth c C Qc mc ms free H locs cells slots ls lvJ _ ⟨h1, h2, h3, h4, h5, h6, h7, h8, h9, hs, h11, h12⟩
  · exact hno (by first | exact fun z => g (eqv.mpr z) | exact fun z => z (eqv.mp g) | (intro z; have := eqv.mpr; first | exact g (this z) | (have gg := eqv.mp; omega))) ok p e R s m args below meth c C Qc mc ms free H locs cells slots ls lvJ _ ⟨h1, h2, h3, h4, h5, h6, h7, h8, h9, hs, h11, h12⟩
theorem s_icmp_lt {l : Launch} {G : pG} {d : Nat} {M : pMeth} {bg : Nat × Nat} {pc q : Nat} {lv : List (Nat × pV)} {st : List pV} {μ : pM} {Q : Option pV → pM → Prop} {off : Int} {tgt : Nat} {x y : Int} (k : Nat) (hf : M.2.2.2.2[k]? = some (pc, .if_icmp .lt off, 3)) (ht : (pc : Int) + off = (tgt : Int)) (hy : x < y → PW l G d M bg tgt lv st μ Q) (hno : ¬ (x < y) → PW l G d M bg q lv st μ Q) (hq : pc + 3 = q := by rfl) : PW l G d M bg pc lv ((0, y) :: (0, x) :: st) μ Q := by
  subst hq
  intro ok p e R s m args below meth c C Qc mc ms free H locs cells slots ls lvJ stJ ⟨h1, h2, h3, h4, h5, h6, h7, h8, h9, h10, h11, h12⟩
  obtain ⟨v1, r1, rfl, a1, hs1⟩ := pst_cons h10
  obtain ⟨jy, rfl, ey⟩ := pAbs_int a1
  obtain ⟨v0, r0, rfl, a0, hs⟩ := pst_cons hs1
  obtain ⟨jx, rfl, ex⟩ := pAbs_int a0
  have eqv := i32_ltv ex ey
  refine lv_icmp_lt C.1 C.2.1 (pDec ok hf) ht (fun g => ?_) (fun g => ?_)
  · exact hy (by first | exact eqv.mp g | exact fun z => g (eqv.mpr z) | omega) ok p e R s m args below meth c C Qc mc ms free H locs cells slots ls lvJ _ ⟨h1, h2, h3, h4, h5, h6, h7, h8, h9, hs, h11, h12⟩
  · exact hno (by first | exact fun z => g (eqv.mpr z) | exact fun z => z (eqv.mp g) | (intro z; have := eqv.mpr; first | exact g (this z) | (have gg := eqv.mp; omega))) ok p e R s m args below meth c C Qc mc ms free H locs cells slots ls lvJ _ ⟨h1, h2, h3, h4, h5, h6, h7, h8, h9, hs, h11, h12⟩
theorem s_if_ge {l : Launch} {G : pG} {d : Nat} {M : pMeth} {bg : Nat × Nat} {pc q : Nat} {lv : List (Nat × pV)} {st : List pV} {μ : pM} {Q : Option pV → pM → Prop} {off : Int} {tgt : Nat} {x : Int} (k : Nat) (hf : M.2.2.2.2[k]? = some (pc, .ifCond .ge off, 3)) (ht : (pc : Int) + off = (tgt : Int)) (hy : 0 ≤ x → PW l G d M bg tgt lv st μ Q) (hno : ¬ (0 ≤ x) → PW l G d M bg q lv st μ Q) (hq : pc + 3 = q := by rfl) : PW l G d M bg pc lv ((0, x) :: st) μ Q := by
  subst hq
  intro ok p e R s m args below meth c C Qc mc ms free H locs cells slots ls lvJ stJ ⟨h1, h2, h3, h4, h5, h6, h7, h8, h9, h10, h11, h12⟩
  obtain ⟨v0, r0, rfl, a0, hs⟩ := pst_cons h10
  obtain ⟨jx, rfl, ex⟩ := pAbs_int a0
  have eqv := i32_lev i32_z ex
  refine lv_if_ge C.1 C.2.1 (pDec ok hf) ht (fun g => ?_) (fun g => ?_)
  · exact hy (by first | exact eqv.mp g | exact fun z => g (eqv.mpr z) | omega) ok p e R s m args below meth c C Qc mc ms free H locs cells slots ls lvJ _ ⟨h1, h2, h3, h4, h5, h6, h7, h8, h9, hs, h11, h12⟩
  · exact hno (by first | exact fun z => g (eqv.mpr z) | exact fun z => z (eqv.mp g) | (intro z; have := eqv.mpr; first | exact g (this z) | (have gg := eqv.mp; omega))) ok p e R s m args below meth c C Qc mc ms free H locs cells slots ls lvJ _ ⟨h1, h2, h3, h4, h5, h6, h7, h8, h9, hs, h11, h12⟩
theorem s_icmp_ge {l : Launch} {G : pG} {d : Nat} {M : pMeth} {bg : Nat × Nat} {pc q : Nat} {lv : List (Nat × pV)} {st : List pV} {μ : pM} {Q : Option pV → pM → Prop} {off : Int} {tgt : Nat} {x y : Int} (k : Nat) (hf : M.2.2.2.2[k]? = some (pc, .if_icmp .ge off, 3)) (ht : (pc : Int) + off = (tgt : Int)) (hy : y ≤ x → PW l G d M bg tgt lv st μ Q) (hno : ¬ (y ≤ x) → PW l G d M bg q lv st μ Q) (hq : pc + 3 = q := by rfl) : PW l G d M bg pc lv ((0, y) :: (0, x) :: st) μ Q := by
  subst hq
  intro ok p e R s m args below meth c C Qc mc ms free H locs cells slots ls lvJ stJ ⟨h1, h2, h3, h4, h5, h6, h7, h8, h9, h10, h11, h12⟩
  obtain ⟨v1, r1, rfl, a1, hs1⟩ := pst_cons h10
  obtain ⟨jy, rfl, ey⟩ := pAbs_int a1
  obtain ⟨v0, r0, rfl, a0, hs⟩ := pst_cons hs1
  obtain ⟨jx, rfl, ex⟩ := pAbs_int a0
  have eqv := i32_lev ey ex
  refine lv_icmp_ge C.1 C.2.1 (pDec ok hf) ht (fun g => ?_) (fun g => ?_)
  · exact hy (by first | exact eqv.mp g | exact fun z => g (eqv.mpr z) | omega) ok p e R s m args below meth c C Qc mc ms free H locs cells slots ls lvJ _ ⟨h1, h2, h3, h4, h5, h6, h7, h8, h9, hs, h11, h12⟩
  · exact hno (by first | exact fun z => g (eqv.mpr z) | exact fun z => z (eqv.mp g) | (intro z; have := eqv.mpr; first | exact g (this z) | (have gg := eqv.mp; omega))) ok p e R s m args below meth c C Qc mc ms free H locs cells slots ls lvJ _ ⟨h1, h2, h3, h4, h5, h6, h7, h8, h9, hs, h11, h12⟩
theorem s_if_gt {l : Launch} {G : pG} {d : Nat} {M : pMeth} {bg : Nat × Nat} {pc q : Nat} {lv : List (Nat × pV)} {st : List pV} {μ : pM} {Q : Option pV → pM → Prop} {off : Int} {tgt : Nat} {x : Int} (k : Nat) (hf : M.2.2.2.2[k]? = some (pc, .ifCond .gt off, 3)) (ht : (pc : Int) + off = (tgt : Int)) (hy : 0 < x → PW l G d M bg tgt lv st μ Q) (hno : ¬ (0 < x) → PW l G d M bg q lv st μ Q) (hq : pc + 3 = q := by rfl) : PW l G d M bg pc lv ((0, x) :: st) μ Q := by
  subst hq
  intro ok p e R s m args below meth c C Qc mc ms free H locs cells slots ls lvJ stJ ⟨h1, h2, h3, h4, h5, h6, h7, h8, h9, h10, h11, h12⟩
  obtain ⟨v0, r0, rfl, a0, hs⟩ := pst_cons h10
  obtain ⟨jx, rfl, ex⟩ := pAbs_int a0
  have eqv := i32_ltv i32_z ex
  refine lv_if_gt C.1 C.2.1 (pDec ok hf) ht (fun g => ?_) (fun g => ?_)
  · exact hy (by first | exact eqv.mp g | exact fun z => g (eqv.mpr z) | omega) ok p e R s m args below meth c C Qc mc ms free H locs cells slots ls lvJ _ ⟨h1, h2, h3, h4, h5, h6, h7, h8, h9, hs, h11, h12⟩
  · exact hno (by first | exact fun z => g (eqv.mpr z) | exact fun z => z (eqv.mp g) | (intro z; have := eqv.mpr; first | exact g (this z) | (have gg := eqv.mp; omega))) ok p e R s m args below meth c C Qc mc ms free H locs cells slots ls lvJ _ ⟨h1, h2, h3, h4, h5, h6, h7, h8, h9, hs, h11, h12⟩
theorem s_icmp_gt {l : Launch} {G : pG} {d : Nat} {M : pMeth} {bg : Nat × Nat} {pc q : Nat} {lv : List (Nat × pV)} {st : List pV} {μ : pM} {Q : Option pV → pM → Prop} {off : Int} {tgt : Nat} {x y : Int} (k : Nat) (hf : M.2.2.2.2[k]? = some (pc, .if_icmp .gt off, 3)) (ht : (pc : Int) + off = (tgt : Int)) (hy : y < x → PW l G d M bg tgt lv st μ Q) (hno : ¬ (y < x) → PW l G d M bg q lv st μ Q) (hq : pc + 3 = q := by rfl) : PW l G d M bg pc lv ((0, y) :: (0, x) :: st) μ Q := by
  subst hq
  intro ok p e R s m args below meth c C Qc mc ms free H locs cells slots ls lvJ stJ ⟨h1, h2, h3, h4, h5, h6, h7, h8, h9, h10, h11, h12⟩
  obtain ⟨v1, r1, rfl, a1, hs1⟩ := pst_cons h10
  obtain ⟨jy, rfl, ey⟩ := pAbs_int a1
  obtain ⟨v0, r0, rfl, a0, hs⟩ := pst_cons hs1
  obtain ⟨jx, rfl, ex⟩ := pAbs_int a0
  have eqv := i32_ltv ey ex
  refine lv_icmp_gt C.1 C.2.1 (pDec ok hf) ht (fun g => ?_) (fun g => ?_)
  · exact hy (by first | exact eqv.mp g | exact fun z => g (eqv.mpr z) | omega) ok p e R s m args below meth c C Qc mc ms free H locs cells slots ls lvJ _ ⟨h1, h2, h3, h4, h5, h6, h7, h8, h9, hs, h11, h12⟩
  · exact hno (by first | exact fun z => g (eqv.mpr z) | exact fun z => z (eqv.mp g) | (intro z; have := eqv.mpr; first | exact g (this z) | (have gg := eqv.mp; omega))) ok p e R s m args below meth c C Qc mc ms free H locs cells slots ls lvJ _ ⟨h1, h2, h3, h4, h5, h6, h7, h8, h9, hs, h11, h12⟩
theorem s_if_le {l : Launch} {G : pG} {d : Nat} {M : pMeth} {bg : Nat × Nat} {pc q : Nat} {lv : List (Nat × pV)} {st : List pV} {μ : pM} {Q : Option pV → pM → Prop} {off : Int} {tgt : Nat} {x : Int} (k : Nat) (hf : M.2.2.2.2[k]? = some (pc, .ifCond .le off, 3)) (ht : (pc : Int) + off = (tgt : Int)) (hy : x ≤ 0 → PW l G d M bg tgt lv st μ Q) (hno : ¬ (x ≤ 0) → PW l G d M bg q lv st μ Q) (hq : pc + 3 = q := by rfl) : PW l G d M bg pc lv ((0, x) :: st) μ Q := by
  subst hq
  intro ok p e R s m args below meth c C Qc mc ms free H locs cells slots ls lvJ stJ ⟨h1, h2, h3, h4, h5, h6, h7, h8, h9, h10, h11, h12⟩
  obtain ⟨v0, r0, rfl, a0, hs⟩ := pst_cons h10
  obtain ⟨jx, rfl, ex⟩ := pAbs_int a0
  have eqv := i32_lev ex i32_z
  refine lv_if_le C.1 C.2.1 (pDec ok hf) ht (fun g => ?_) (fun g => ?_)
  · exact hy (by first | exact eqv.mp g | exact fun z => g (eqv.mpr z) | omega) ok p e R s m args below meth c C Qc mc ms free H locs cells slots ls lvJ _ ⟨h1, h2, h3, h4, h5, h6, h7, h8, h9, hs, h11, h12⟩
  · exact hno (by first | exact fun z => g (eqv.mpr z) | exact fun z => z (eqv.mp g) | (intro z; have := eqv.mpr; first | exact g (this z) | (have gg := eqv.mp; omega))) ok p e R s m args below meth c C Qc mc ms free H locs cells slots ls lvJ _ ⟨h1, h2, h3, h4, h5, h6, h7, h8, h9, hs, h11, h12⟩
theorem s_icmp_le {l : Launch} {G : pG} {d : Nat} {M : pMeth} {bg : Nat × Nat} {pc q : Nat} {lv : List (Nat × pV)} {st : List pV} {μ : pM} {Q : Option pV → pM → Prop} {off : Int} {tgt : Nat} {x y : Int} (k : Nat) (hf : M.2.2.2.2[k]? = some (pc, .if_icmp .le off, 3)) (ht : (pc : Int) + off = (tgt : Int)) (hy : x ≤ y → PW l G d M bg tgt lv st μ Q) (hno : ¬ (x ≤ y) → PW l G d M bg q lv st μ Q) (hq : pc + 3 = q := by rfl) : PW l G d M bg pc lv ((0, y) :: (0, x) :: st) μ Q := by
  subst hq
  intro ok p e R s m args below meth c C Qc mc ms free H locs cells slots ls lvJ stJ ⟨h1, h2, h3, h4, h5, h6, h7, h8, h9, h10, h11, h12⟩
  obtain ⟨v1, r1, rfl, a1, hs1⟩ := pst_cons h10
  obtain ⟨jy, rfl, ey⟩ := pAbs_int a1
  obtain ⟨v0, r0, rfl, a0, hs⟩ := pst_cons hs1
  obtain ⟨jx, rfl, ex⟩ := pAbs_int a0
  have eqv := i32_lev ex ey
  refine lv_icmp_le C.1 C.2.1 (pDec ok hf) ht (fun g => ?_) (fun g => ?_)
  · exact hy (by first | exact eqv.mp g | exact fun z => g (eqv.mpr z) | omega) ok p e R s m args below meth c C Qc mc ms free H locs cells slots ls lvJ _ ⟨h1, h2, h3, h4, h5, h6, h7, h8, h9, hs, h11, h12⟩
  · exact hno (by first | exact fun z => g (eqv.mpr z) | exact fun z => z (eqv.mp g) | (intro z; have := eqv.mpr; first | exact g (this z) | (have gg := eqv.mp; omega))) ok p e R s m args below meth c C Qc mc ms free H locs cells slots ls lvJ _ ⟨h1, h2, h3, h4, h5, h6, h7, h8, h9, hs, h11, h12⟩
theorem s_goto {l : Launch} {G : pG} {d : Nat} {M : pMeth} {bg : Nat × Nat} {pc : Nat} {lv : List (Nat × pV)} {st : List pV} {μ : pM} {Q : Option pV → pM → Prop} {off : Int} {tgt : Nat} (k : Nat) (hf : M.2.2.2.2[k]? = some (pc, .goto off, 3)) (ht : (pc : Int) + off = (tgt : Int)) (h : PW l G d M bg tgt lv st μ Q) : PW l G d M bg pc lv st μ Q := by
  intro ok p e R s m args below meth c C Qc mc ms free H locs cells slots ls lvJ stJ ⟨h1, h2, h3, h4, h5, h6, h7, h8, h9, h10, h11, h12⟩
  refine lv_goto C.1 C.2.1 (pDec ok hf) ht ?_
  exact h ok p e R s m args below meth c C Qc mc ms free H locs cells slots ls lvJ _ ⟨h1, h2, h3, h4, h5, h6, h7, h8, h9, h10, h11, h12⟩
theorem s_ifnull {l : Launch} {G : pG} {d : Nat} {M : pMeth} {bg : Nat × Nat} {pc q : Nat} {lv : List (Nat × pV)} {st : List pV} {μ : pM} {Q : Option pV → pM → Prop} {off : Int} {tgt : Nat} {x : Int} (k : Nat) (hf : M.2.2.2.2[k]? = some (pc, .ifnull off, 3)) (ht : (pc : Int) + off = (tgt : Int)) (hy : x = -1 → PW l G d M bg tgt lv st μ Q) (hno : ¬ (x = -1) → PW l G d M bg q lv st μ Q) (hq : pc + 3 = q := by rfl) : PW l G d M bg pc lv ((2, x) :: st) μ Q := by
  subst hq
  intro ok p e R s m args below meth c C Qc mc ms free H locs cells slots ls lvJ stJ ⟨h1, h2, h3, h4, h5, h6, h7, h8, h9, h10, h11, h12⟩
  obtain ⟨v0, r0, rfl, a0, hs⟩ := pst_cons h10
  by_cases hx : x = -1
  · subst hx
    have := pAbs_null a0
    subst this
    exact lv_ifnullN C.1 C.2.1 (pDec ok hf) ht (hy rfl ok p e R s m args below meth c C Qc mc ms free H locs cells slots ls lvJ _ ⟨h1, h2, h3, h4, h5, h6, h7, h8, h9, hs, h11, h12⟩)
  · obtain ⟨a, rfl, -⟩ := pAbs_refn a0 hx
    exact lv_ifnull C.1 C.2.1 (pDec ok hf) (hno hx ok p e R s m args below meth c C Qc mc ms free H locs cells slots ls lvJ _ ⟨h1, h2, h3, h4, h5, h6, h7, h8, h9, hs, h11, h12⟩)
theorem s_ifnonnull {l : Launch} {G : pG} {d : Nat} {M : pMeth} {bg : Nat × Nat} {pc q : Nat} {lv : List (Nat × pV)} {st : List pV} {μ : pM} {Q : Option pV → pM → Prop} {off : Int} {tgt : Nat} {x : Int} (k : Nat) (hf : M.2.2.2.2[k]? = some (pc, .ifnonnull off, 3)) (ht : (pc : Int) + off = (tgt : Int)) (hy : ¬ x = -1 → PW l G d M bg tgt lv st μ Q) (hno : ¬ (¬ x = -1) → PW l G d M bg q lv st μ Q) (hq : pc + 3 = q := by rfl) : PW l G d M bg pc lv ((2, x) :: st) μ Q := by
  subst hq
  intro ok p e R s m args below meth c C Qc mc ms free H locs cells slots ls lvJ stJ ⟨h1, h2, h3, h4, h5, h6, h7, h8, h9, h10, h11, h12⟩
  obtain ⟨v0, r0, rfl, a0, hs⟩ := pst_cons h10
  by_cases hx : x = -1
  · subst hx
    have := pAbs_null a0
    subst this
    exact lv_ifnonnullN C.1 C.2.1 (pDec ok hf) (hno (fun z => z rfl) ok p e R s m args below meth c C Qc mc ms free H locs cells slots ls lvJ _ ⟨h1, h2, h3, h4, h5, h6, h7, h8, h9, hs, h11, h12⟩)
  · obtain ⟨a, rfl, -⟩ := pAbs_refn a0 hx
    exact lv_ifnonnull C.1 C.2.1 (pDec ok hf) ht (hy hx ok p e R s m args below meth c C Qc mc ms free H locs cells slots ls lvJ _ ⟨h1, h2, h3, h4, h5, h6, h7, h8, h9, hs, h11, h12⟩)
theorem s_tableOut {l : Launch} {G : pG} {d : Nat} {M : pMeth} {bg : Nat × Nat} {pc : Nat} {lv : List (Nat × pV)} {st : List pV} {μ : pM} {Q : Option pV → pM → Prop} {dflt lo hi : Int} {offs : Array Int} {len tgt : Nat} {x : Int} (k : Nat) (hf : M.2.2.2.2[k]? = some (pc, .tableswitch dflt lo hi offs, len)) (hx : x < lo ∨ hi < x) (ht : (pc : Int) + dflt = (tgt : Int)) (h : PW l G d M bg tgt lv st μ Q) : PW l G d M bg pc lv ((0, x) :: st) μ Q := by
  intro ok p e R s m args below meth c C Qc mc ms free H locs cells slots ls lvJ stJ ⟨h1, h2, h3, h4, h5, h6, h7, h8, h9, h10, h11, h12⟩
  obtain ⟨v0, r0, rfl, a0, hs⟩ := pst_cons h10
  obtain ⟨jx, rfl, ex⟩ := pAbs_int a0
  refine lv_tableOut C.1 C.2.1 (pDec ok hf) (by rw [ex]; exact hx) ht ?_
  exact h ok p e R s m args below meth c C Qc mc ms free H locs cells slots ls lvJ _ ⟨h1, h2, h3, h4, h5, h6, h7, h8, h9, hs, h11, h12⟩
theorem s_tableIn {l : Launch} {G : pG} {d : Nat} {M : pMeth} {bg : Nat × Nat} {pc : Nat} {lv : List (Nat × pV)} {st : List pV} {μ : pM} {Q : Option pV → pM → Prop} {dflt lo hi : Int} {offs : Array Int} {len tgt : Nat} {x off : Int} (k : Nat) (hf : M.2.2.2.2[k]? = some (pc, .tableswitch dflt lo hi offs, len)) (hx : lo ≤ x ∧ x ≤ hi) (ho : offs[(x - lo).toNat]? = some off) (ht : (pc : Int) + off = (tgt : Int)) (h : PW l G d M bg tgt lv st μ Q) : PW l G d M bg pc lv ((0, x) :: st) μ Q := by
  intro ok p e R s m args below meth c C Qc mc ms free H locs cells slots ls lvJ stJ ⟨h1, h2, h3, h4, h5, h6, h7, h8, h9, h10, h11, h12⟩
  obtain ⟨v0, r0, rfl, a0, hs⟩ := pst_cons h10
  obtain ⟨jx, rfl, ex⟩ := pAbs_int a0
  refine lv_tableIn C.1 C.2.1 (pDec ok hf) (by rw [ex]; omega) (by rw [ex]; omega) (by rw [ex]; exact ho) ht ?_
  exact h ok p e R s m args below meth c C Qc mc ms free H locs cells slots ls lvJ _ ⟨h1, h2, h3, h4, h5, h6, h7, h8, h9, hs, h11, h12⟩
