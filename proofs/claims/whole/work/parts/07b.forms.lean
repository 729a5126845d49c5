/-! Math.max, Math.min; rules in the form that the programs print -/
theorem s_imax {l : Launch} {G : pG} {d : Nat} {M : pMeth} {bg : Nat × Nat} {pc q : Nat} {lv : List (Nat × pV)} {st : List pV} {μ : pM} {Q : Option pV → pM → Prop} {index : Nat} {x y : Int} (k : Nat) (hf : M.2.2.2.2[k]? = some (pc, .invokestatic index, 3)) (hw : Cond.methodLink M.1.cls index ⟨"java/lang/Math", "max", "(II)I"⟩ ∈ lw_u) (h : PW l G d M bg q lv ((0, max x y) :: st) μ Q) (hq : pc + 3 = q := by rfl) (hcat : pCat st ≤ 8 := by exact Nat.le_of_ble_eq_true rfl) (hall : st.all (fun q => q.1 < 3) = true := by rfl) : PW l G d M bg pc lv ((0, y) :: (0, x) :: st) μ Q := by
  subst hq
  intro ok p e R s m args below meth c C Qc mc ms free H locs cells slots ls lvJ stJ ⟨h1, h2, h3, h4, h5, h6, h7, h8, h9, h10, h11, h12⟩
  obtain ⟨v1, r1, rfl, a1, hs1⟩ := pst_cons h10
  obtain ⟨v0, r0, rfl, a0, hs⟩ := pst_cons hs1
  obtain ⟨jy, rfl, ey⟩ := pAbs_int a1
  obtain ⟨jx, rfl, ex⟩ := pAbs_int a0
  obtain ⟨cx, cb, cm, co, ct, -, -, -, cK, -, -, cf, cl⟩ := id C
  have hc := pCat_eq hs hall
  refine va_mmax cx cb (by rw [cm]; exact h8.1.symm) co (ct _ hw) (ct _ (tb3 (List.mem_of_getElem? (i := 68) rfl))) (ct _ (tb1 (List.mem_of_getElem? (i := 15) (by decide +kernel)))) (ct _ (tb3 (List.mem_of_getElem? (i := 69) rfl))) (by omega) (by rw [hc]; omega) (by omega) (by omega) (pDec ok hf) ?_
  refine h ok p e R s m args below meth c C Qc mc ms free H locs cells slots ls lvJ _ ⟨h1, h2, h3, h4, h5, h6, h7, h8, h9, ?_, h11, h12⟩
  by_cases hlt : jx < jy
  · have h' := Int32.lt_iff_toInt_lt.mp hlt
    simp only [List.map_cons, hs, if_pos hlt, pAbs, ex, ey]
    rw [ex, ey] at h'
    congr 2
    omega
  · have h' : ¬ _ := fun z => hlt (Int32.lt_iff_toInt_lt.mpr z)
    simp only [List.map_cons, hs, if_neg hlt, pAbs, ex, ey]
    rw [ex, ey] at h'
    congr 2
    omega
theorem s_imin {l : Launch} {G : pG} {d : Nat} {M : pMeth} {bg : Nat × Nat} {pc q : Nat} {lv : List (Nat × pV)} {st : List pV} {μ : pM} {Q : Option pV → pM → Prop} {index : Nat} {x y : Int} (k : Nat) (hf : M.2.2.2.2[k]? = some (pc, .invokestatic index, 3)) (hw : Cond.methodLink M.1.cls index ⟨"java/lang/Math", "min", "(II)I"⟩ ∈ lw_u) (h : PW l G d M bg q lv ((0, min x y) :: st) μ Q) (hq : pc + 3 = q := by rfl) (hcat : pCat st ≤ 8 := by exact Nat.le_of_ble_eq_true rfl) (hall : st.all (fun q => q.1 < 3) = true := by rfl) : PW l G d M bg pc lv ((0, y) :: (0, x) :: st) μ Q := by
  subst hq
  intro ok p e R s m args below meth c C Qc mc ms free H locs cells slots ls lvJ stJ ⟨h1, h2, h3, h4, h5, h6, h7, h8, h9, h10, h11, h12⟩
  obtain ⟨v1, r1, rfl, a1, hs1⟩ := pst_cons h10
  obtain ⟨v0, r0, rfl, a0, hs⟩ := pst_cons hs1
  obtain ⟨jy, rfl, ey⟩ := pAbs_int a1
  obtain ⟨jx, rfl, ex⟩ := pAbs_int a0
  obtain ⟨cx, cb, cm, co, ct, -, -, -, cK, -, -, cf, cl⟩ := id C
  have hc := pCat_eq hs hall
  refine va_mmin cx cb (by rw [cm]; exact h8.1.symm) co (ct _ hw) (ct _ (tb3 (List.mem_of_getElem? (i := 174) rfl))) (ct _ (tb1 (List.mem_of_getElem? (i := 15) (by decide +kernel)))) (ct _ (tb3 (List.mem_of_getElem? (i := 175) rfl))) (by omega) (by rw [hc]; omega) (by omega) (by omega) (pDec ok hf) ?_
  refine h ok p e R s m args below meth c C Qc mc ms free H locs cells slots ls lvJ _ ⟨h1, h2, h3, h4, h5, h6, h7, h8, h9, ?_, h11, h12⟩
  by_cases hlt : jy < jx
  · have h' := Int32.lt_iff_toInt_lt.mp hlt
    simp only [List.map_cons, hs, if_pos hlt, pAbs, ex, ey]
    rw [ex, ey] at h'
    congr 2
    omega
  · have h' : ¬ _ := fun z => hlt (Int32.lt_iff_toInt_lt.mpr z)
    simp only [List.map_cons, hs, if_neg hlt, pAbs, ex, ey]
    rw [ex, ey] at h'
    congr 2
    omega
theorem s_lmax {l : Launch} {G : pG} {d : Nat} {M : pMeth} {bg : Nat × Nat} {pc q : Nat} {lv : List (Nat × pV)} {st : List pV} {μ : pM} {Q : Option pV → pM → Prop} {index : Nat} {x y : Int} (k : Nat) (hf : M.2.2.2.2[k]? = some (pc, .invokestatic index, 3)) (hw : Cond.methodLink M.1.cls index ⟨"java/lang/Math", "max", "(JJ)J"⟩ ∈ lw_u) (h : PW l G d M bg q lv ((1, max x y) :: st) μ Q) (hq : pc + 3 = q := by rfl) (hcat : pCat st ≤ 8 := by exact Nat.le_of_ble_eq_true rfl) (hall : st.all (fun q => q.1 < 3) = true := by rfl) : PW l G d M bg pc lv ((1, y) :: (1, x) :: st) μ Q := by
  subst hq
  intro ok p e R s m args below meth c C Qc mc ms free H locs cells slots ls lvJ stJ ⟨h1, h2, h3, h4, h5, h6, h7, h8, h9, h10, h11, h12⟩
  obtain ⟨v1, r1, rfl, a1, hs1⟩ := pst_cons h10
  obtain ⟨v0, r0, rfl, a0, hs⟩ := pst_cons hs1
  obtain ⟨jy, rfl, ey⟩ := pAbs_long a1
  obtain ⟨jx, rfl, ex⟩ := pAbs_long a0
  obtain ⟨cx, cb, cm, co, ct, -, -, -, cK, -, -, cf, cl⟩ := id C
  have hc := pCat_eq hs hall
  refine va_mmax_long cx cb (by rw [cm]; exact h8.1.symm) co (ct _ hw) (ct _ (tb3 (List.mem_of_getElem? (i := 125) rfl))) (ct _ (tb1 (List.mem_of_getElem? (i := 15) (by decide +kernel)))) (ct _ (tb3 (List.mem_of_getElem? (i := 126) rfl))) (by omega) (by rw [hc]; omega) (by omega) (by omega) (pDec ok hf) ?_
  refine h ok p e R s m args below meth c C Qc mc ms free H locs cells slots ls lvJ _ ⟨h1, h2, h3, h4, h5, h6, h7, h8, h9, ?_, h11, h12⟩
  by_cases hlt : jy < jx
  · have h' := Int64.lt_iff_toInt_lt.mp hlt
    simp only [List.map_cons, hs, if_pos hlt, pAbs, ex, ey]
    rw [ex, ey] at h'
    congr 2
    omega
  · have h' : ¬ _ := fun z => hlt (Int64.lt_iff_toInt_lt.mpr z)
    simp only [List.map_cons, hs, if_neg hlt, pAbs, ex, ey]
    rw [ex, ey] at h'
    congr 2
    omega
theorem s_lmin {l : Launch} {G : pG} {d : Nat} {M : pMeth} {bg : Nat × Nat} {pc q : Nat} {lv : List (Nat × pV)} {st : List pV} {μ : pM} {Q : Option pV → pM → Prop} {index : Nat} {x y : Int} (k : Nat) (hf : M.2.2.2.2[k]? = some (pc, .invokestatic index, 3)) (hw : Cond.methodLink M.1.cls index ⟨"java/lang/Math", "min", "(JJ)J"⟩ ∈ lw_u) (h : PW l G d M bg q lv ((1, min x y) :: st) μ Q) (hq : pc + 3 = q := by rfl) (hcat : pCat st ≤ 8 := by exact Nat.le_of_ble_eq_true rfl) (hall : st.all (fun q => q.1 < 3) = true := by rfl) : PW l G d M bg pc lv ((1, y) :: (1, x) :: st) μ Q := by
  subst hq
  intro ok p e R s m args below meth c C Qc mc ms free H locs cells slots ls lvJ stJ ⟨h1, h2, h3, h4, h5, h6, h7, h8, h9, h10, h11, h12⟩
  obtain ⟨v1, r1, rfl, a1, hs1⟩ := pst_cons h10
  obtain ⟨v0, r0, rfl, a0, hs⟩ := pst_cons hs1
  obtain ⟨jy, rfl, ey⟩ := pAbs_long a1
  obtain ⟨jx, rfl, ex⟩ := pAbs_long a0
  obtain ⟨cx, cb, cm, co, ct, -, -, -, cK, -, -, cf, cl⟩ := id C
  have hc := pCat_eq hs hall
  refine va_mmin_long cx cb (by rw [cm]; exact h8.1.symm) co (ct _ hw) (ct _ (tb3 (List.mem_of_getElem? (i := 122) rfl))) (ct _ (tb1 (List.mem_of_getElem? (i := 15) (by decide +kernel)))) (ct _ (tb3 (List.mem_of_getElem? (i := 123) rfl))) (by omega) (by rw [hc]; omega) (by omega) (by omega) (pDec ok hf) ?_
  refine h ok p e R s m args below meth c C Qc mc ms free H locs cells slots ls lvJ _ ⟨h1, h2, h3, h4, h5, h6, h7, h8, h9, ?_, h11, h12⟩
  by_cases hlt : jy < jx
  · have h' := Int64.lt_iff_toInt_lt.mp hlt
    simp only [List.map_cons, hs, if_pos hlt, pAbs, ex, ey]
    rw [ex, ey] at h'
    congr 2
    omega
  · have h' : ¬ _ := fun z => hlt (Int64.lt_iff_toInt_lt.mpr z)
    simp only [List.map_cons, hs, if_neg hlt, pAbs, ex, ey]
    rw [ex, ey] at h'
    congr 2
    omega
theorem PW.top {l : Launch} {G : pG} {d : Nat} {M : pMeth} {bg : Nat × Nat} {pc : Nat} {lv : List (Nat × pV)} {st : List pV} {μ : pM} {Q : Option pV → pM → Prop} {t : Nat} {a b : Int} (e : a = b) (h : PW l G d M bg pc lv ((t, b) :: st) μ Q) : PW l G d M bg pc lv ((t, a) :: st) μ Q := by rw [e]; exact h
theorem pK2 {K : Int → Nat × Nat} {x : Int} {k : Nat} (h : (K x).1 = k) : K x = (k, (K x).2) := by rw [← h]
section PX
variable {l : Launch} {G : pG} {d d' : Nat} {M N : pMeth} {bg : Nat × Nat} {pc q : Nat} {lv : List (Nat × pV)} {as st full : List pV} {μ : pM} {Q : Option pV → pM → Prop} {n : Nat} {K : Int → Nat × Nat} {F E : Int → Int → Int}
/-- no overflow -/
theorem n_iadd {x y : Int} (k : Nat) (hf : M.2.2.2.2[k]? = some (pc, .iadd, 1)) (hb : -2147483648 ≤ x + y ∧ x + y < 2147483648) (h : PW l G d M bg q lv ((0, x + y) :: st) μ Q) (hq : pc + 1 = q := by rfl) : PW l G d M bg pc lv ((0, y) :: (0, x) :: st) μ Q := s_iadd k hf (by rw [w32_id hb.1 hb.2]; exact h) hq
theorem n_isub {x y : Int} (k : Nat) (hf : M.2.2.2.2[k]? = some (pc, .isub, 1)) (hb : -2147483648 ≤ x - y ∧ x - y < 2147483648) (h : PW l G d M bg q lv ((0, x - y) :: st) μ Q) (hq : pc + 1 = q := by rfl) : PW l G d M bg pc lv ((0, y) :: (0, x) :: st) μ Q := s_isub k hf (by rw [w32_id hb.1 hb.2]; exact h) hq
theorem n_imul {x y : Int} (k : Nat) (hf : M.2.2.2.2[k]? = some (pc, .imul, 1)) (hb : -2147483648 ≤ x * y ∧ x * y < 2147483648) (h : PW l G d M bg q lv ((0, x * y) :: st) μ Q) (hq : pc + 1 = q := by rfl) : PW l G d M bg pc lv ((0, y) :: (0, x) :: st) μ Q := s_imul k hf (by rw [w32_id hb.1 hb.2]; exact h) hq
theorem n_ineg {x : Int} (k : Nat) (hf : M.2.2.2.2[k]? = some (pc, .ineg, 1)) (hb : -2147483648 ≤ -x ∧ -x < 2147483648) (h : PW l G d M bg q lv ((0, -x) :: st) μ Q) (hq : pc + 1 = q := by rfl) : PW l G d M bg pc lv ((0, x) :: st) μ Q := s_ineg k hf (by rw [w32_id hb.1 hb.2]; exact h) hq
theorem n_iinc {i : Nat} {a x : Int} {lv' : List (Nat × pV)} (k j : Nat) (hf : M.2.2.2.2[k]? = some (pc, .iinc i a, 3)) (hj : lv[j]? = some (i, (0, x))) (hb : -2147483648 ≤ x + a ∧ x + a < 2147483648) (hl : (i, (0, x + a)) :: lv.filter (fun q => !(q.1 == i) && !(q.1 + 1 == i && q.2.1 == 1)) = lv') (h : PW l G d M bg q lv' st μ Q) (hq : pc + 3 = q := by rfl) (hn : i < M.2.2.1 := by decide) (hc : lv.all (fun q => q.2.1 < 3) = true := by rfl) (hz : (Int32.ofInt a).toInt = a := by decide) : PW l G d M bg pc lv st μ Q := s_iinc k j hf hj (by rw [w32_id hb.1 hb.2]; exact hl) h hq hn hc hz
theorem n_l2i {x : Int} (k : Nat) (hf : M.2.2.2.2[k]? = some (pc, .l2i, 1)) (hb : -2147483648 ≤ x ∧ x < 2147483648) (h : PW l G d M bg q lv ((0, x) :: st) μ Q) (hq : pc + 1 = q := by rfl) : PW l G d M bg pc lv ((1, x) :: st) μ Q := s_l2i k hf (by rw [w32_id hb.1 hb.2]; exact h) hq
theorem n_ladd {x y : Int} (k : Nat) (hf : M.2.2.2.2[k]? = some (pc, .ladd, 1)) (hb : -9223372036854775808 ≤ x + y ∧ x + y < 9223372036854775808) (h : PW l G d M bg q lv ((1, x + y) :: st) μ Q) (hq : pc + 1 = q := by rfl) : PW l G d M bg pc lv ((1, y) :: (1, x) :: st) μ Q := s_ladd k hf (by rw [w64_id hb.1 hb.2]; exact h) hq
theorem n_lsub {x y : Int} (k : Nat) (hf : M.2.2.2.2[k]? = some (pc, .lsub, 1)) (hb : -9223372036854775808 ≤ x - y ∧ x - y < 9223372036854775808) (h : PW l G d M bg q lv ((1, x - y) :: st) μ Q) (hq : pc + 1 = q := by rfl) : PW l G d M bg pc lv ((1, y) :: (1, x) :: st) μ Q := s_lsub k hf (by rw [w64_id hb.1 hb.2]; exact h) hq
theorem n_iald {x i : Int} (k : Nat) (hf : M.2.2.2.2[k]? = some (pc, .iaload, 1)) (hK : (K x).1 = 20) (hi : 0 ≤ i ∧ i < (K x).2) (h : PW l G d M bg q lv ((0, E x i) :: st) (n, K, F, E) Q) (hq : pc + 1 = q := by rfl) : PW l G d M bg pc lv ((0, i) :: (2, x) :: st) (n, K, F, E) Q := s_iald k hf (pK2 hK) hi h hq
theorem n_alen {x : Int} (k t : Nat) (hf : M.2.2.2.2[k]? = some (pc, .arraylength, 1)) (hK : (K x).1 = 20 + t) (h : PW l G d M bg q lv ((0, (K x).2) :: st) (n, K, F, E) Q) (hq : pc + 1 = q := by rfl) (ht : t < 6 := by decide) : PW l G d M bg pc lv ((2, x) :: st) (n, K, F, E) Q := s_alen k hf (pK2 hK) h hq ht
theorem n_lald {x i : Int} (k : Nat) (hf : M.2.2.2.2[k]? = some (pc, .laload, 1)) (hx : 0 ≤ x) (hK : (K x).1 = 21) (hi : 0 ≤ i ∧ i < (K x).2) (h : PW l G d M bg q lv ((1, E x i) :: st) (n, K, F, E) Q) (hq : pc + 1 = q := by rfl) : PW l G d M bg pc lv ((0, i) :: (2, x) :: st) (n, K, F, E) Q := s_lald k hf (pK2 hK) hx hi h hq
theorem n_bald {x i : Int} (k t : Nat) (hf : M.2.2.2.2[k]? = some (pc, .baload, 1)) (hx : 0 ≤ x) (hK : (K x).1 = 20 + t) (hi : 0 ≤ i ∧ i < (K x).2) (h : PW l G d M bg q lv ((0, E x i) :: st) (n, K, F, E) Q) (hq : pc + 1 = q := by rfl) (ht : t = 2 ∨ t = 3 := by decide) : PW l G d M bg pc lv ((0, i) :: (2, x) :: st) (n, K, F, E) Q := s_bald k hf (pK2 hK) ht hx hi h hq
theorem n_aald {x i : Int} (k t : Nat) (hf : M.2.2.2.2[k]? = some (pc, .aaload, 1)) (hx : 0 ≤ x) (hK : (K x).1 = 20 + t) (hi : 0 ≤ i ∧ i < (K x).2) (h : PW l G d M bg q lv ((2, E x i) :: st) (n, K, F, E) Q) (hq : pc + 1 = q := by rfl) (ht : t = 4 ∨ t = 5 := by decide) : PW l G d M bg pc lv ((0, i) :: (2, x) :: st) (n, K, F, E) Q := s_aald k hf (pK2 hK) ht hx hi h hq
theorem n_iast {x i y : Int} (k : Nat) (hf : M.2.2.2.2[k]? = some (pc, .iastore, 1)) (hx : 0 ≤ x) (hK : (K x).1 = 20) (hi : 0 ≤ i ∧ i < (K x).2) (h : PW l G d M bg q lv st (n, K, F, pUp E x i y) Q) (hq : pc + 1 = q := by rfl) : PW l G d M bg pc lv ((0, y) :: (0, i) :: (2, x) :: st) (n, K, F, E) Q := s_iast k hf (pK2 hK) hx hi h hq
theorem n_last {x i y : Int} (k : Nat) (hf : M.2.2.2.2[k]? = some (pc, .lastore, 1)) (hx : 0 ≤ x) (hK : (K x).1 = 21) (hi : 0 ≤ i ∧ i < (K x).2) (h : PW l G d M bg q lv st (n, K, F, pUp E x i y) Q) (hq : pc + 1 = q := by rfl) : PW l G d M bg pc lv ((1, y) :: (0, i) :: (2, x) :: st) (n, K, F, E) Q := s_last k hf (pK2 hK) hx hi h hq
theorem n_bast {x i y : Int} (k : Nat) (hf : M.2.2.2.2[k]? = some (pc, .bastore, 1)) (hx : 0 ≤ x) (hK : (K x).1 = 22) (hi : 0 ≤ i ∧ i < (K x).2) (h : PW l G d M bg q lv st (n, K, F, pUp E x i (w8 y)) Q) (hq : pc + 1 = q := by rfl) : PW l G d M bg pc lv ((0, y) :: (0, i) :: (2, x) :: st) (n, K, F, E) Q := s_bast k hf (pK2 hK) hx hi h hq
theorem n_zast {x i y : Int} (k : Nat) (hf : M.2.2.2.2[k]? = some (pc, .bastore, 1)) (hx : 0 ≤ x) (hK : (K x).1 = 23) (hi : 0 ≤ i ∧ i < (K x).2) (hy : y = 0 ∨ y = 1) (h : PW l G d M bg q lv st (n, K, F, pUp E x i y) Q) (hq : pc + 1 = q := by rfl) : PW l G d M bg pc lv ((0, y) :: (0, i) :: (2, x) :: st) (n, K, F, E) Q := s_zast k hf (pK2 hK) hx hi hy h hq
theorem n_aast {x i y : Int} (k t : Nat) (hf : M.2.2.2.2[k]? = some (pc, .aastore, 1)) (hx : 0 ≤ x) (hK : (K x).1 = 20 + t) (hi : 0 ≤ i ∧ i < (K x).2) (hy : y = -1 ∨ (K y).1 = (if t = 4 then 1 else 9)) (h : PW l G d M bg q lv st (n, K, F, pUp E x i y) Q) (hq : pc + 1 = q := by rfl) (ht : t = 4 ∨ t = 5 := by decide) : PW l G d M bg pc lv ((2, y) :: (0, i) :: (2, x) :: st) (n, K, F, E) Q := s_aast (zc := (K y).2) k hf (pK2 hK) ht hx hi (hy.imp id pK2) h hq
theorem n_copy {index : Nat} {a0 a1 sp dp len : Int} (k : Nat) (hf : M.2.2.2.2[k]? = some (pc, .invokestatic index, 3)) (hw : Cond.methodLink M.1.cls index arraycopyName ∈ lw_u) (hx0 : 0 ≤ a0) (hK0 : (K a0).1 = 20) (hx1 : 0 ≤ a1) (hK1 : (K a1).1 = 20) (hb : 0 ≤ sp ∧ 0 ≤ dp ∧ 0 ≤ len ∧ sp + len ≤ (K a0).2 ∧ dp + len ≤ (K a1).2) (h : PW l G d M bg q lv st (n, K, F, pRow E a1 (pCpy E a0 sp a1 dp len)) Q) (hq : pc + 3 = q := by rfl) (hcat : pCat st ≤ 8 := by exact Nat.le_of_ble_eq_true rfl) (hall : st.all (fun q => q.1 < 3) = true := by rfl) : PW l G d M bg pc lv ((0, len) :: (0, dp) :: (2, a1) :: (0, sp) :: (2, a0) :: st) (n, K, F, E) Q := s_copy k hf hw (pK2 hK0) (pK2 hK1) hx0 hx1 hb.1 hb.2.1 hb.2.2.1 hb.2.2.2.1 hb.2.2.2.2 h hq hcat hall
/-- calls of what makes nothing -/
theorem n_callS {index : Nat} (k : Nat) (hf : M.2.2.2.2[k]? = some (pc, .invokestatic index, 3)) (hN : pStat N as.length) (hw : Cond.methodLink M.1.cls index N.1 ∈ lw_u) (hfull : as.reverse ++ st = full) (h : PC l G d' N (0, 0) as μ (fun r μ' => PW l G d M bg q lv (r.toList ++ st) μ' Q)) (hq : pc + 3 = q := by rfl) (hd : d' + 1 ≤ d := by decide) (hall : as.all (fun q => q.1 < 3) = true := by rfl) (hsz : pCat as ≤ N.2.2.1 := by exact Nat.le_of_ble_eq_true rfl) (hcat : pCat st ≤ 8 := by exact Nat.le_of_ble_eq_true rfl) (hall2 : st.all (fun q => q.1 < 3) = true := by rfl) : PW l G d M bg pc lv full μ Q := s_callS (b' := (0, 0)) k hf hN hw hfull h hq hd ⟨Nat.zero_le _, Nat.zero_le _⟩ hall hsz hcat hall2
theorem n_callV {index ci : Nat} {x : Int} (k : Nat) (hf : M.2.2.2.2[k]? = some (pc, .invokevirtual index, 3)) (hN : pVirt N as.length ci) (hw : Cond.methodLink M.1.cls index N.1 ∈ lw_u) (hfull : ((2, x) :: as).reverse ++ st = full) (hK : (μ.2.1 x).1 = ci) (h : PC l G d' N (0, 0) ((2, x) :: as) μ (fun r μ' => PW l G d M bg q lv (r.toList ++ st) μ' Q)) (hq : pc + 3 = q := by rfl) (hd : d' + 1 ≤ d := by decide) (hall : ((2, x) :: as).all (fun q => q.1 < 3) = true := by rfl) (hsz : pCat ((2, x) :: as) ≤ N.2.2.1 := by exact Nat.le_of_ble_eq_true rfl) (hcat : pCat st ≤ 8 := by exact Nat.le_of_ble_eq_true rfl) (hall2 : st.all (fun q => q.1 < 3) = true := by rfl) : PW l G d M bg pc lv full μ Q := s_callV (b' := (0, 0)) k hf hN hw hfull (pK2 hK) h hq hd ⟨Nat.zero_le _, Nat.zero_le _⟩ hall hsz hcat hall2
theorem n_getf {index t : Nat} {x jj : Int} (k ci j : Nat) (hf : M.2.2.2.2[k]? = some (pc, .getfield index, 3)) (hw : pFL M.1.cls index ci j) (hK : (K x).1 = ci) (h : PW l G d M bg q lv ((t, F x jj) :: st) (n, K, F, E) Q) (hq : pc + 3 = q := by rfl) (ht : pTag (cY ci j) = t := by rfl) (hj : ((j : Nat) : Int) = jj := by rfl) : PW l G d M bg pc lv ((2, x) :: st) (n, K, F, E) Q := s_getf k ci j hf hw (pK2 hK) (by rw [hj]; exact h) hq ht
theorem n_putf {index t : Nat} {x y jj : Int} (k ci j : Nat) (hf : M.2.2.2.2[k]? = some (pc, .putfield index, 3)) (hw : pFL M.1.cls index ci j) (hK : (K x).1 = ci) (hty : cY ci j = .int ∨ cY ci j = .long ∨ (cY ci j = .boolean ∧ (y = 0 ∨ y = 1)) ∨ (∃ c, cY ci j = .object c) ∨ ∃ c, cY ci j = .array c) (h : PW l G d M bg q lv st (n, K, pUp F x jj y, E) Q) (hq : pc + 3 = q := by rfl) (ht : pTag (cY ci j) = t := by rfl) (hj : ((j : Nat) : Int) = jj := by rfl) (hfin : (cT ci j).2.2.2 = false ∨ (M.1.name = "<init>" ∧ cR ci = M.1.cls) := by first | exact Or.inl rfl | exact Or.inr ⟨rfl, rfl⟩) : PW l G d M bg pc lv ((t, y) :: (2, x) :: st) (n, K, F, E) Q := s_putf k ci j hf hw (pK2 hK) hfin hty (by rw [hj]; exact h) hq ht
end PX
