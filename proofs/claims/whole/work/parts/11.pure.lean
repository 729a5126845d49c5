theorem vX11_isRelation_0 {l : Launch} {G : pG} {bg : Nat × Nat} {n : Nat} {K : Int → Nat × Nat} {F E : Int → Int → Int} {Q : Option pV → pM → Prop} (x0 : Int) (h : ((x0 < 0 → Q (some (0, 0)) (n, K, F, E)) ∧ (¬ (x0 < 0) → ((3 ≤ x0 → Q (some (0, 0)) (n, K, F, E)) ∧ (¬ (3 ≤ x0) → Q (some (0, 1)) (n, K, F, E)))))) : PW l G 0 mX11_isRelation bg 0 [(0, (0, x0))] [] (n, K, F, E) Q := by
  refine s_iload_n (q := 1) 0 0 rfl rfl ?_
  refine s_if_lt (q := 4) (tgt := 13) 1 rfl rfl (fun hb => ?_) (fun hb => ?_)
  · skip
    have b1 := hb
    replace h := h.1 hb
    refine s_iconst (q := 14) 7 rfl ?_
    exact s_zret 8 rfl rfl (by decide) h
  · skip
    have b1 := hb
    replace h := h.2 hb
    refine s_iload_n (q := 5) 2 0 rfl rfl ?_
    refine s_iconst (q := 6) 3 rfl ?_
    refine s_icmp_ge (q := 9) (tgt := 13) 4 rfl rfl (fun hb => ?_) (fun hb => ?_)
    · skip
      have b2 := hb
      replace h := h.1 hb
      refine s_iconst (q := 14) 7 rfl ?_
      exact s_zret 8 rfl rfl (by decide) h
    · skip
      have b2 := hb
      replace h := h.2 hb
      refine s_iconst (q := 10) 5 rfl ?_
      refine s_goto (tgt := 14) 6 rfl rfl ?_
      exact s_zret 8 rfl rfl (by decide) h
theorem pX11_isRelation {l : Launch} {G : pG} {n : Nat} {K : Int → Nat × Nat} {F E : Int → Int → Int} {Q : Option pV → pM → Prop} {x0 : Int} (h : Q (some (0, bI (0 ≤ x0 ∧ x0 < 3))) (n, K, F, E)) : PC l G 0 mX11_isRelation (0, 0) [(0, x0)] (n, K, F, E) Q := by
  show PW l G 0 mX11_isRelation (0, 0) 0 [(0, (0, x0))] [] (n, K, F, E) Q
  refine vX11_isRelation_0 _ ?_
  repeat' (first | (refine ⟨?_, ?_⟩) | (intro _))
  all_goals first | assumption | omega | exact h | (exact (congrArg (fun z => Q (some (0, z)) (n, K, F, E)) (bI_iff (by omega))).mp h) | (rw [bI_no (by omega)] at h; exact h) | (rw [bI_of (by omega)] at h; exact h)
theorem vX11_isField_0 {l : Launch} {G : pG} {bg : Nat × Nat} {n : Nat} {K : Int → Nat × Nat} {F E : Int → Int → Int} {Q : Option pV → pM → Prop} (x0 : Int) (h : ((x0 < 0 → Q (some (0, 0)) (n, K, F, E)) ∧ (¬ (x0 < 0) → ((2 ≤ x0 → Q (some (0, 0)) (n, K, F, E)) ∧ (¬ (2 ≤ x0) → Q (some (0, 1)) (n, K, F, E)))))) : PW l G 0 mX11_isField bg 0 [(0, (0, x0))] [] (n, K, F, E) Q := by
  refine s_iload_n (q := 1) 0 0 rfl rfl ?_
  refine s_if_lt (q := 4) (tgt := 13) 1 rfl rfl (fun hb => ?_) (fun hb => ?_)
  · skip
    have b1 := hb
    replace h := h.1 hb
    refine s_iconst (q := 14) 7 rfl ?_
    exact s_zret 8 rfl rfl (by decide) h
  · skip
    have b1 := hb
    replace h := h.2 hb
    refine s_iload_n (q := 5) 2 0 rfl rfl ?_
    refine s_iconst (q := 6) 3 rfl ?_
    refine s_icmp_ge (q := 9) (tgt := 13) 4 rfl rfl (fun hb => ?_) (fun hb => ?_)
    · skip
      have b2 := hb
      replace h := h.1 hb
      refine s_iconst (q := 14) 7 rfl ?_
      exact s_zret 8 rfl rfl (by decide) h
    · skip
      have b2 := hb
      replace h := h.2 hb
      refine s_iconst (q := 10) 5 rfl ?_
      refine s_goto (tgt := 14) 6 rfl rfl ?_
      exact s_zret 8 rfl rfl (by decide) h
theorem pX11_isField {l : Launch} {G : pG} {n : Nat} {K : Int → Nat × Nat} {F E : Int → Int → Int} {Q : Option pV → pM → Prop} {x0 : Int} (h : Q (some (0, bI (0 ≤ x0 ∧ x0 < 2))) (n, K, F, E)) : PC l G 0 mX11_isField (0, 0) [(0, x0)] (n, K, F, E) Q := by
  show PW l G 0 mX11_isField (0, 0) 0 [(0, (0, x0))] [] (n, K, F, E) Q
  refine vX11_isField_0 _ ?_
  repeat' (first | (refine ⟨?_, ?_⟩) | (intro _))
  all_goals first | assumption | omega | exact h | (exact (congrArg (fun z => Q (some (0, z)) (n, K, F, E)) (bI_iff (by omega))).mp h) | (rw [bI_no (by omega)] at h; exact h) | (rw [bI_of (by omega)] at h; exact h)
theorem vX11_isDigit_0 {l : Launch} {G : pG} {bg : Nat × Nat} {n : Nat} {K : Int → Nat × Nat} {F E : Int → Int → Int} {Q : Option pV → pM → Prop} (x0 : Int) (h : ((x0 < 0 → Q (some (0, 0)) (n, K, F, E)) ∧ (¬ (x0 < 0) → ((9 < x0 → Q (some (0, 0)) (n, K, F, E)) ∧ (¬ (9 < x0) → Q (some (0, 1)) (n, K, F, E)))))) : PW l G 0 mX11_isDigit bg 0 [(0, (0, x0))] [] (n, K, F, E) Q := by
  refine s_iload_n (q := 1) 0 0 rfl rfl ?_
  refine s_if_lt (q := 4) (tgt := 14) 1 rfl rfl (fun hb => ?_) (fun hb => ?_)
  · skip
    have b1 := hb
    replace h := h.1 hb
    refine s_iconst (q := 15) 7 rfl ?_
    exact s_zret 8 rfl rfl (by decide) h
  · skip
    have b1 := hb
    replace h := h.2 hb
    refine s_iload_n (q := 5) 2 0 rfl rfl ?_
    refine s_bipush (q := 7) 3 rfl ?_
    refine s_icmp_gt (q := 10) (tgt := 14) 4 rfl rfl (fun hb => ?_) (fun hb => ?_)
    · skip
      have b2 := hb
      replace h := h.1 hb
      refine s_iconst (q := 15) 7 rfl ?_
      exact s_zret 8 rfl rfl (by decide) h
    · skip
      have b2 := hb
      replace h := h.2 hb
      refine s_iconst (q := 11) 5 rfl ?_
      refine s_goto (tgt := 15) 6 rfl rfl ?_
      exact s_zret 8 rfl rfl (by decide) h
theorem pX11_isDigit {l : Launch} {G : pG} {n : Nat} {K : Int → Nat × Nat} {F E : Int → Int → Int} {Q : Option pV → pM → Prop} {x0 : Int} (h : Q (some (0, bI (0 ≤ x0 ∧ x0 < 10))) (n, K, F, E)) : PC l G 0 mX11_isDigit (0, 0) [(0, x0)] (n, K, F, E) Q := by
  show PW l G 0 mX11_isDigit (0, 0) 0 [(0, (0, x0))] [] (n, K, F, E) Q
  refine vX11_isDigit_0 _ ?_
  repeat' (first | (refine ⟨?_, ?_⟩) | (intro _))
  all_goals first | assumption | omega | exact h | (exact (congrArg (fun z => Q (some (0, z)) (n, K, F, E)) (bI_iff (by omega))).mp h) | (rw [bI_no (by omega)] at h; exact h) | (rw [bI_of (by omega)] at h; exact h)
theorem vX12_in_0 {l : Launch} {G : pG} {bg : Nat × Nat} {n : Nat} {K : Int → Nat × Nat} {F E : Int → Int → Int} {Q : Option pV → pM → Prop} (x0 x2 x4 : Int) (h : ((x0 < x2 → Q (some (0, 0)) (n, K, F, E)) ∧ (¬ (x0 < x2) → ((x4 < x0 → Q (some (0, 0)) (n, K, F, E)) ∧ (¬ (x4 < x0) → Q (some (0, 1)) (n, K, F, E)))))) : PW l G 0 mX12_in bg 0 [(0, (1, x0)), (2, (1, x2)), (4, (1, x4))] [] (n, K, F, E) Q := by
  refine s_lload_n (q := 1) 0 0 rfl rfl ?_
  refine s_lload_n (q := 2) 1 1 rfl rfl ?_
  refine s_lcmp (q := 3) 2 rfl ?_
  refine s_if_lt (q := 6) (tgt := 17) 3 rfl rfl (fun hb => ?_) (fun hb => ?_)
  · have hb := lCmp_lt.mp hb
    have b1 := hb
    replace h := h.1 hb
    refine s_iconst (q := 18) 10 rfl ?_
    exact s_zret 11 rfl rfl (by decide) h
  · have hb := mt lCmp_lt.mpr hb
    have b1 := hb
    replace h := h.2 hb
    refine s_lload_n (q := 7) 4 0 rfl rfl ?_
    refine s_lload (q := 9) 5 2 rfl rfl ?_
    refine s_lcmp (q := 10) 6 rfl ?_
    refine s_if_gt (q := 13) (tgt := 17) 7 rfl rfl (fun hb => ?_) (fun hb => ?_)
    · have hb := lCmp_gt.mp hb
      have b2 := hb
      replace h := h.1 hb
      refine s_iconst (q := 18) 10 rfl ?_
      exact s_zret 11 rfl rfl (by decide) h
    · have hb := mt lCmp_gt.mpr hb
      have b2 := hb
      replace h := h.2 hb
      refine s_iconst (q := 14) 8 rfl ?_
      refine s_goto (tgt := 18) 9 rfl rfl ?_
      exact s_zret 11 rfl rfl (by decide) h
theorem pX12_in {l : Launch} {G : pG} {n : Nat} {K : Int → Nat × Nat} {F E : Int → Int → Int} {Q : Option pV → pM → Prop} {x0 x2 x4 : Int} (h : Q (some (0, bI (x2 ≤ x0 ∧ x0 ≤ x4))) (n, K, F, E)) : PC l G 0 mX12_in (0, 0) [(1, x0), (1, x2), (1, x4)] (n, K, F, E) Q := by
  show PW l G 0 mX12_in (0, 0) 0 [(0, (1, x0)), (2, (1, x2)), (4, (1, x4))] [] (n, K, F, E) Q
  refine vX12_in_0 _ _ _ ?_
  repeat' (first | (refine ⟨?_, ?_⟩) | (intro _))
  all_goals first | assumption | omega | exact h | (exact (congrArg (fun z => Q (some (0, z)) (n, K, F, E)) (bI_iff (by omega))).mp h) | (rw [bI_no (by omega)] at h; exact h) | (rw [bI_of (by omega)] at h; exact h)
theorem vX12_isRelation_0 {l : Launch} {G : pG} {bg : Nat × Nat} {n : Nat} {K : Int → Nat × Nat} {F E : Int → Int → Int} {Q : Option pV → pM → Prop} (x0 : Int) (h : Q (some (0, bI (0 ≤ x0 ∧ x0 ≤ 2))) (n, K, F, E)) : PW l G 1 mX12_isRelation bg 0 [(0, (0, x0))] [] (n, K, F, E) Q := by
  refine s_iload_n (q := 1) 0 0 rfl rfl ?_
  refine s_i2l (q := 2) 1 rfl ?_
  refine s_lconst (q := 3) (x := 0) 2 rfl ?_
  refine s_ldc2 (q := 6) (x := 2) 3 rfl kX12_61 ?_
  refine n_callS (N := mX12_in) (as := [(1, x0), (1, 0), (1, 2)]) (st := []) (q := 9) (d' := 0) 4 rfl uX12_in kX12_197 rfl (pX12_in ?_)
  show PW l G 1 mX12_isRelation bg 9 [(0, (0, x0))] [(0, bI (0 ≤ x0 ∧ x0 ≤ 2))] (n, K, F, E) Q
  exact s_zret 5 rfl rfl bI_01 h
theorem pX12_isRelation {l : Launch} {G : pG} {n : Nat} {K : Int → Nat × Nat} {F E : Int → Int → Int} {Q : Option pV → pM → Prop} {x0 : Int} (h : Q (some (0, bI (0 ≤ x0 ∧ x0 < 3))) (n, K, F, E)) : PC l G 1 mX12_isRelation (0, 0) [(0, x0)] (n, K, F, E) Q := by
  show PW l G 1 mX12_isRelation (0, 0) 0 [(0, (0, x0))] [] (n, K, F, E) Q
  refine vX12_isRelation_0 _ ?_
  repeat' (first | (refine ⟨?_, ?_⟩) | (intro _))
  all_goals first | assumption | omega | exact h | (exact (congrArg (fun z => Q (some (0, z)) (n, K, F, E)) (bI_iff (by omega))).mp h) | (rw [bI_no (by omega)] at h; exact h) | (rw [bI_of (by omega)] at h; exact h)
theorem vX0_hasOperator_0 {l : Launch} {G : pG} {bg : Nat × Nat} {n : Nat} {K : Int → Nat × Nat} {F E : Int → Int → Int} {Q : Option pV → pM → Prop} (x0 x1 : Int) (h : ((x1 < 0 → Q (some (0, 0)) (n, K, F, E)) ∧ (¬ (x1 < 0) → (K x0).1 = 0 ∧ (K (F x0 0)).1 = 20 ∧ ((0 : Int) ≤ 0 ∧ 0 < ((K (F x0 0)).2 : Int)) ∧ ((E (F x0 0) 0 ≤ x1 → Q (some (0, 0)) (n, K, F, E)) ∧ (¬ (E (F x0 0) 0 ≤ x1) → Q (some (0, 1)) (n, K, F, E)))))) : PW l G 0 mX0_hasOperator bg 0 [(0, (2, x0)), (1, (0, x1))] [] (n, K, F, E) Q := by
  refine s_iload_n (q := 1) 0 1 rfl rfl ?_
  refine s_if_lt (q := 4) (tgt := 18) 1 rfl rfl (fun hb => ?_) (fun hb => ?_)
  · skip
    have b1 := hb
    replace h := h.1 hb
    refine s_iconst (q := 19) 10 rfl ?_
    exact s_zret 11 rfl rfl (by decide) h
  · skip
    have b1 := hb
    replace h := h.2 hb
    refine s_iload_n (q := 5) 2 1 rfl rfl ?_
    refine s_aload_n (q := 6) 3 0 rfl rfl ?_
    obtain ⟨c2, h⟩ := h
    refine n_getf (q := 9) (jj := 0) 4 0 0 rfl kX0_11 c2 ?_
    refine s_iconst (q := 10) 5 rfl ?_
    obtain ⟨c3, h⟩ := h
    obtain ⟨c4, h⟩ := h
    refine n_iald (q := 11) 6 rfl c3 c4 ?_
    refine s_icmp_ge (q := 14) (tgt := 18) 7 rfl rfl (fun hb => ?_) (fun hb => ?_)
    · skip
      have b5 := hb
      replace h := h.1 hb
      refine s_iconst (q := 19) 10 rfl ?_
      exact s_zret 11 rfl rfl (by decide) h
    · skip
      have b5 := hb
      replace h := h.2 hb
      refine s_iconst (q := 15) 8 rfl ?_
      refine s_goto (tgt := 19) 9 rfl rfl ?_
      exact s_zret 11 rfl rfl (by decide) h
theorem pX0_hasOperator {l : Launch} {G : pG} {n : Nat} {K : Int → Nat × Nat} {F E : Int → Int → Int} {Q : Option pV → pM → Prop} {x0 x1 : Int} (c0 : (K x0).1 = 0) (c1 : (K (F x0 0)).1 = 20) (c2 : ((0 : Int) ≤ 0 ∧ 0 < ((K (F x0 0)).2 : Int))) (h : Q (some (0, bI (0 ≤ x1 ∧ x1 < E (F x0 0) 0))) (n, K, F, E)) : PC l G 0 mX0_hasOperator (0, 0) [(2, x0), (0, x1)] (n, K, F, E) Q := by
  show PW l G 0 mX0_hasOperator (0, 0) 0 [(0, (2, x0)), (1, (0, x1))] [] (n, K, F, E) Q
  refine vX0_hasOperator_0 _ _ ?_
  repeat' (first | (refine ⟨?_, ?_⟩) | (intro _))
  all_goals first | assumption | omega | exact h | (exact (congrArg (fun z => Q (some (0, z)) (n, K, F, E)) (bI_iff (by omega))).mp h) | (rw [bI_no (by omega)] at h; exact h) | (rw [bI_of (by omega)] at h; exact h)
theorem vX5_is_0 {l : Launch} {G : pG} {bg : Nat × Nat} {n : Nat} {K : Int → Nat × Nat} {F E : Int → Int → Int} {Q : Option pV → pM → Prop} (x0 x1 : Int) (h : (K x0).1 = 5 ∧ (K (F x0 0)).1 = 10 ∧ (K (F (F x0 0) 1)).1 = 20 ∧ ((0 : Int) ≤ F x0 4 ∧ F x0 4 < ((K (F (F x0 0) 1)).2 : Int)) ∧ ((¬ (E (F (F x0 0) 1) (F x0 4)) = x1 → Q (some (0, 0)) (n, K, F, E)) ∧ ((E (F (F x0 0) 1) (F x0 4)) = x1 → Q (some (0, 1)) (n, K, F, E)))) : PW l G 0 mX5_is bg 0 [(0, (2, x0)), (1, (0, x1))] [] (n, K, F, E) Q := by
  refine s_aload_n (q := 1) 0 0 rfl rfl ?_
  obtain ⟨c1, h⟩ := h
  refine n_getf (q := 4) (jj := 0) 1 5 0 rfl kX5_12 c1 ?_
  obtain ⟨c2, h⟩ := h
  refine n_getf (q := 7) (jj := 1) 2 10 1 rfl kX5_60 c2 ?_
  refine s_aload_n (q := 8) 3 0 rfl rfl ?_
  refine n_getf (q := 11) (jj := 4) 4 5 4 rfl kX5_33 c1 ?_
  obtain ⟨c3, h⟩ := h
  obtain ⟨c4, h⟩ := h
  refine n_iald (q := 12) 5 rfl c3 c4 ?_
  refine s_iload_n (q := 13) 6 1 rfl rfl ?_
  refine s_icmp_ne (q := 16) (tgt := 20) 7 rfl rfl (fun hb => ?_) (fun hb => ?_)
  · skip
    have b5 := hb
    replace h := h.1 hb
    refine s_iconst (q := 21) 10 rfl ?_
    exact s_zret 11 rfl rfl (by decide) h
  · have hb := Classical.not_not.mp hb
    have b5 := hb
    replace h := h.2 hb
    refine s_iconst (q := 17) 8 rfl ?_
    refine s_goto (tgt := 21) 9 rfl rfl ?_
    exact s_zret 11 rfl rfl (by decide) h
theorem pX5_is {l : Launch} {G : pG} {n : Nat} {K : Int → Nat × Nat} {F E : Int → Int → Int} {Q : Option pV → pM → Prop} {x0 x1 : Int} (c0 : (K x0).1 = 5) (c1 : (K (F x0 0)).1 = 10) (c2 : (K (F (F x0 0) 1)).1 = 20) (c3 : ((0 : Int) ≤ F x0 4 ∧ F x0 4 < ((K (F (F x0 0) 1)).2 : Int))) (h : Q (some (0, bI (E (F (F x0 0) 1) (F x0 4) = x1))) (n, K, F, E)) : PC l G 0 mX5_is (0, 0) [(2, x0), (0, x1)] (n, K, F, E) Q := by
  show PW l G 0 mX5_is (0, 0) 0 [(0, (2, x0)), (1, (0, x1))] [] (n, K, F, E) Q
  refine vX5_is_0 _ _ ?_
  repeat' (first | (refine ⟨?_, ?_⟩) | (intro _))
  all_goals first | assumption | omega | exact h | (exact (congrArg (fun z => Q (some (0, z)) (n, K, F, E)) (bI_iff (by omega))).mp h) | (rw [bI_no (by omega)] at h; exact h) | (rw [bI_of (by omega)] at h; exact h)
theorem vX10_isFigure_0 {l : Launch} {G : pG} {bg : Nat × Nat} {n : Nat} {K : Int → Nat × Nat} {F E : Int → Int → Int} {Q : Option pV → pM → Prop} (x0 : Int) (h : ((x0 < 48 → Q (some (0, 0)) (n, K, F, E)) ∧ (¬ (x0 < 48) → ((57 < x0 → Q (some (0, 0)) (n, K, F, E)) ∧ (¬ (57 < x0) → Q (some (0, 1)) (n, K, F, E)))))) : PW l G 0 mX10_isFigure bg 0 [(0, (0, x0))] [] (n, K, F, E) Q := by
  refine s_iload_n (q := 1) 0 0 rfl rfl ?_
  refine s_bipush (q := 3) 1 rfl ?_
  refine s_icmp_lt (q := 6) (tgt := 16) 2 rfl rfl (fun hb => ?_) (fun hb => ?_)
  · skip
    have b1 := hb
    replace h := h.1 hb
    refine s_iconst (q := 17) 8 rfl ?_
    exact s_zret 9 rfl rfl (by decide) h
  · skip
    have b1 := hb
    replace h := h.2 hb
    refine s_iload_n (q := 7) 3 0 rfl rfl ?_
    refine s_bipush (q := 9) 4 rfl ?_
    refine s_icmp_gt (q := 12) (tgt := 16) 5 rfl rfl (fun hb => ?_) (fun hb => ?_)
    · skip
      have b2 := hb
      replace h := h.1 hb
      refine s_iconst (q := 17) 8 rfl ?_
      exact s_zret 9 rfl rfl (by decide) h
    · skip
      have b2 := hb
      replace h := h.2 hb
      refine s_iconst (q := 13) 6 rfl ?_
      refine s_goto (tgt := 17) 7 rfl rfl ?_
      exact s_zret 9 rfl rfl (by decide) h
theorem pX10_isFigure {l : Launch} {G : pG} {n : Nat} {K : Int → Nat × Nat} {F E : Int → Int → Int} {Q : Option pV → pM → Prop} {x0 : Int} (h : Q (some (0, bI (48 ≤ x0 ∧ x0 < 58))) (n, K, F, E)) : PC l G 0 mX10_isFigure (0, 0) [(0, x0)] (n, K, F, E) Q := by
  show PW l G 0 mX10_isFigure (0, 0) 0 [(0, (0, x0))] [] (n, K, F, E) Q
  refine vX10_isFigure_0 _ ?_
  repeat' (first | (refine ⟨?_, ?_⟩) | (intro _))
  all_goals first | assumption | omega | exact h | (exact (congrArg (fun z => Q (some (0, z)) (n, K, F, E)) (bI_iff (by omega))).mp h) | (rw [bI_no (by omega)] at h; exact h) | (rw [bI_of (by omega)] at h; exact h)
theorem vX10_isLetter_0 {l : Launch} {G : pG} {bg : Nat × Nat} {n : Nat} {K : Int → Nat × Nat} {F E : Int → Int → Int} {Q : Option pV → pM → Prop} (x0 : Int) (h : ((x0 < 97 → Q (some (0, 0)) (n, K, F, E)) ∧ (¬ (x0 < 97) → ((122 < x0 → Q (some (0, 0)) (n, K, F, E)) ∧ (¬ (122 < x0) → Q (some (0, 1)) (n, K, F, E)))))) : PW l G 0 mX10_isLetter bg 0 [(0, (0, x0))] [] (n, K, F, E) Q := by
  refine s_iload_n (q := 1) 0 0 rfl rfl ?_
  refine s_bipush (q := 3) 1 rfl ?_
  refine s_icmp_lt (q := 6) (tgt := 16) 2 rfl rfl (fun hb => ?_) (fun hb => ?_)
  · skip
    have b1 := hb
    replace h := h.1 hb
    refine s_iconst (q := 17) 8 rfl ?_
    exact s_zret 9 rfl rfl (by decide) h
  · skip
    have b1 := hb
    replace h := h.2 hb
    refine s_iload_n (q := 7) 3 0 rfl rfl ?_
    refine s_bipush (q := 9) 4 rfl ?_
    refine s_icmp_gt (q := 12) (tgt := 16) 5 rfl rfl (fun hb => ?_) (fun hb => ?_)
    · skip
      have b2 := hb
      replace h := h.1 hb
      refine s_iconst (q := 17) 8 rfl ?_
      exact s_zret 9 rfl rfl (by decide) h
    · skip
      have b2 := hb
      replace h := h.2 hb
      refine s_iconst (q := 13) 6 rfl ?_
      refine s_goto (tgt := 17) 7 rfl rfl ?_
      exact s_zret 9 rfl rfl (by decide) h
theorem pX10_isLetter {l : Launch} {G : pG} {n : Nat} {K : Int → Nat × Nat} {F E : Int → Int → Int} {Q : Option pV → pM → Prop} {x0 : Int} (h : Q (some (0, bI (97 ≤ x0 ∧ x0 < 123))) (n, K, F, E)) : PC l G 0 mX10_isLetter (0, 0) [(0, x0)] (n, K, F, E) Q := by
  show PW l G 0 mX10_isLetter (0, 0) 0 [(0, (0, x0))] [] (n, K, F, E) Q
  refine vX10_isLetter_0 _ ?_
  repeat' (first | (refine ⟨?_, ?_⟩) | (intro _))
  all_goals first | assumption | omega | exact h | (exact (congrArg (fun z => Q (some (0, z)) (n, K, F, E)) (bI_iff (by omega))).mp h) | (rw [bI_no (by omega)] at h; exact h) | (rw [bI_of (by omega)] at h; exact h)
theorem vX11_isTuple_0 {l : Launch} {G : pG} {bg : Nat × Nat} {n : Nat} {K : Int → Nat × Nat} {F E : Int → Int → Int} {Q : Option pV → pM → Prop} (x0 x1 x2 : Int) (h : ((¬ (0 ≤ x0 ∧ x0 < 3) → Q (some (0, 0)) (n, K, F, E)) ∧ (0 ≤ x0 ∧ x0 < 3 → ((¬ (0 ≤ x1 ∧ x1 < 10) → Q (some (0, 0)) (n, K, F, E)) ∧ (0 ≤ x1 ∧ x1 < 10 → ((¬ (0 ≤ x2 ∧ x2 < 10) → Q (some (0, 0)) (n, K, F, E)) ∧ (0 ≤ x2 ∧ x2 < 10 → Q (some (0, 1)) (n, K, F, E)))))))) : PW l G 1 mX11_isTuple bg 0 [(0, (0, x0)), (1, (0, x1)), (2, (0, x2))] [] (n, K, F, E) Q := by
  refine s_iload_n (q := 1) 0 0 rfl rfl ?_
  refine n_callS (N := mX11_isRelation) (as := [(0, x0)]) (st := []) (q := 4) (d' := 0) 1 rfl uX11_isRelation kX11_107 rfl (pX11_isRelation ?_)
  show PW l G 1 mX11_isTuple bg 4 [(0, (0, x0)), (1, (0, x1)), (2, (0, x2))] [(0, bI (0 ≤ x0 ∧ x0 < 3))] (n, K, F, E) Q
  refine s_if_eq (q := 7) (tgt := 25) 2 rfl rfl (fun hb => ?_) (fun hb => ?_)
  · have hb := bI_f hb
    have b1 := hb
    replace h := h.1 hb
    refine s_iconst (q := 26) 11 rfl ?_
    exact s_zret 12 rfl rfl (by decide) h
  · have hb := bI_t hb
    have b1 := hb
    replace h := h.2 hb
    refine s_iload_n (q := 8) 3 1 rfl rfl ?_
    refine n_callS (N := mX11_isDigit) (as := [(0, x1)]) (st := []) (q := 11) (d' := 0) 4 rfl uX11_isDigit kX11_122 rfl (pX11_isDigit ?_)
    show PW l G 1 mX11_isTuple bg 11 [(0, (0, x0)), (1, (0, x1)), (2, (0, x2))] [(0, bI (0 ≤ x1 ∧ x1 < 10))] (n, K, F, E) Q
    refine s_if_eq (q := 14) (tgt := 25) 5 rfl rfl (fun hb => ?_) (fun hb => ?_)
    · have hb := bI_f hb
      have b2 := hb
      replace h := h.1 hb
      refine s_iconst (q := 26) 11 rfl ?_
      exact s_zret 12 rfl rfl (by decide) h
    · have hb := bI_t hb
      have b2 := hb
      replace h := h.2 hb
      refine s_iload_n (q := 15) 6 2 rfl rfl ?_
      refine n_callS (N := mX11_isDigit) (as := [(0, x2)]) (st := []) (q := 18) (d' := 0) 7 rfl uX11_isDigit kX11_122 rfl (pX11_isDigit ?_)
      show PW l G 1 mX11_isTuple bg 18 [(0, (0, x0)), (1, (0, x1)), (2, (0, x2))] [(0, bI (0 ≤ x2 ∧ x2 < 10))] (n, K, F, E) Q
      refine s_if_eq (q := 21) (tgt := 25) 8 rfl rfl (fun hb => ?_) (fun hb => ?_)
      · have hb := bI_f hb
        have b3 := hb
        replace h := h.1 hb
        refine s_iconst (q := 26) 11 rfl ?_
        exact s_zret 12 rfl rfl (by decide) h
      · have hb := bI_t hb
        have b3 := hb
        replace h := h.2 hb
        refine s_iconst (q := 22) 9 rfl ?_
        refine s_goto (tgt := 26) 10 rfl rfl ?_
        exact s_zret 12 rfl rfl (by decide) h
theorem pX11_isTuple {l : Launch} {G : pG} {n : Nat} {K : Int → Nat × Nat} {F E : Int → Int → Int} {Q : Option pV → pM → Prop} {x0 x1 x2 : Int} (h : Q (some (0, bI ((0 ≤ x0 ∧ x0 < 3) ∧ (0 ≤ x1 ∧ x1 < 10) ∧ (0 ≤ x2 ∧ x2 < 10)))) (n, K, F, E)) : PC l G 1 mX11_isTuple (0, 0) [(0, x0), (0, x1), (0, x2)] (n, K, F, E) Q := by
  show PW l G 1 mX11_isTuple (0, 0) 0 [(0, (0, x0)), (1, (0, x1)), (2, (0, x2))] [] (n, K, F, E) Q
  refine vX11_isTuple_0 _ _ _ ?_
  repeat' (first | (refine ⟨?_, ?_⟩) | (intro _))
  all_goals first | assumption | omega | exact h | (exact (congrArg (fun z => Q (some (0, z)) (n, K, F, E)) (bI_iff (by omega))).mp h) | (rw [bI_no (by omega)] at h; exact h) | (rw [bI_of (by omega)] at h; exact h)
theorem vX11_hasLaw_0 {l : Launch} {G : pG} {bg : Nat × Nat} {n : Nat} {K : Int → Nat × Nat} {F E : Int → Int → Int} {Q : Option pV → pM → Prop} (x0 x1 : Int) (h : ((x1 < 0 → Q (some (0, 0)) (n, K, F, E)) ∧ (¬ (x1 < 0) → (K x0).1 = 11 ∧ (K (F x0 0)).1 = 1 ∧ ((F (F x0 0) 6 ≤ x1 → Q (some (0, 0)) (n, K, F, E)) ∧ (¬ (F (F x0 0) 6 ≤ x1) → Q (some (0, 1)) (n, K, F, E)))))) : PW l G 0 mX11_hasLaw bg 0 [(0, (2, x0)), (1, (0, x1))] [] (n, K, F, E) Q := by
  refine s_iload_n (q := 1) 0 1 rfl rfl ?_
  refine s_if_lt (q := 4) (tgt := 19) 1 rfl rfl (fun hb => ?_) (fun hb => ?_)
  · skip
    have b1 := hb
    replace h := h.1 hb
    refine s_iconst (q := 20) 9 rfl ?_
    exact s_zret 10 rfl rfl (by decide) h
  · skip
    have b1 := hb
    replace h := h.2 hb
    refine s_iload_n (q := 5) 2 1 rfl rfl ?_
    refine s_aload_n (q := 6) 3 0 rfl rfl ?_
    obtain ⟨c2, h⟩ := h
    refine n_getf (q := 9) (jj := 0) 4 11 0 rfl kX11_10 c2 ?_
    obtain ⟨c3, h⟩ := h
    refine n_getf (q := 12) (jj := 6) 5 1 6 rfl kX11_179 c3 ?_
    refine s_icmp_ge (q := 15) (tgt := 19) 6 rfl rfl (fun hb => ?_) (fun hb => ?_)
    · skip
      have b4 := hb
      replace h := h.1 hb
      refine s_iconst (q := 20) 9 rfl ?_
      exact s_zret 10 rfl rfl (by decide) h
    · skip
      have b4 := hb
      replace h := h.2 hb
      refine s_iconst (q := 16) 7 rfl ?_
      refine s_goto (tgt := 20) 8 rfl rfl ?_
      exact s_zret 10 rfl rfl (by decide) h
theorem pX11_hasLaw {l : Launch} {G : pG} {n : Nat} {K : Int → Nat × Nat} {F E : Int → Int → Int} {Q : Option pV → pM → Prop} {x0 x1 : Int} (c0 : (K x0).1 = 11) (c1 : (K (F x0 0)).1 = 1) (h : Q (some (0, bI (0 ≤ x1 ∧ x1 < F (F x0 0) 6))) (n, K, F, E)) : PC l G 0 mX11_hasLaw (0, 0) [(2, x0), (0, x1)] (n, K, F, E) Q := by
  show PW l G 0 mX11_hasLaw (0, 0) 0 [(0, (2, x0)), (1, (0, x1))] [] (n, K, F, E) Q
  refine vX11_hasLaw_0 _ _ ?_
  repeat' (first | (refine ⟨?_, ?_⟩) | (intro _))
  all_goals first | assumption | omega | exact h | (exact (congrArg (fun z => Q (some (0, z)) (n, K, F, E)) (bI_iff (by omega))).mp h) | (rw [bI_no (by omega)] at h; exact h) | (rw [bI_of (by omega)] at h; exact h)
theorem vX12_bounded_0 {l : Launch} {G : pG} {bg : Nat × Nat} {n : Nat} {K : Int → Nat × Nat} {F E : Int → Int → Int} {Q : Option pV → pM → Prop} (x0 x2 x3 : Int) (h : ((x2 ≤ x0 → ((x0 ≤ x3 → (-2147483648 ≤ x0 ∧ x0 < 2147483648) ∧ Q (some (0, x0)) (n, K, F, E)) ∧ (¬ (x0 ≤ x3) → Q (some (0, x3)) (n, K, F, E)))) ∧ (¬ (x2 ≤ x0) → Q (some (0, x2)) (n, K, F, E)))) : PW l G 0 mX12_bounded bg 0 [(0, (1, x0)), (2, (0, x2)), (3, (0, x3))] [] (n, K, F, E) Q := by
  refine s_lload_n (q := 1) 0 0 rfl rfl ?_
  refine s_iload_n (q := 2) 1 1 rfl rfl ?_
  refine s_i2l (q := 3) 2 rfl ?_
  refine s_lcmp (q := 4) 3 rfl ?_
  refine s_if_ge (q := 7) (tgt := 11) 4 rfl rfl (fun hb => ?_) (fun hb => ?_)
  · have hb := lCmp_ge.mp hb
    have b1 := hb
    replace h := h.1 hb
    refine s_lload_n (q := 12) 7 0 rfl rfl ?_
    refine s_iload_n (q := 13) 8 2 rfl rfl ?_
    refine s_i2l (q := 14) 9 rfl ?_
    refine s_lcmp (q := 15) 10 rfl ?_
    refine s_if_le (q := 18) (tgt := 22) 11 rfl rfl (fun hb => ?_) (fun hb => ?_)
    · have hb := lCmp_le.mp hb
      have b2 := hb
      replace h := h.1 hb
      refine s_lload_n (q := 23) 14 0 rfl rfl ?_
      obtain ⟨c3, h⟩ := h
      refine n_l2i (q := 24) 15 rfl c3 ?_
      exact s_iret 16 rfl rfl h
    · have hb := mt lCmp_le.mpr hb
      have b2 := hb
      replace h := h.2 hb
      refine s_iload_n (q := 19) 12 2 rfl rfl ?_
      refine s_goto (tgt := 24) 13 rfl rfl ?_
      exact s_iret 16 rfl rfl h
  · have hb := mt lCmp_ge.mpr hb
    have b1 := hb
    replace h := h.2 hb
    refine s_iload_n (q := 8) 5 1 rfl rfl ?_
    refine s_goto (tgt := 24) 6 rfl rfl ?_
    exact s_iret 16 rfl rfl h
theorem pX12_bounded {l : Launch} {G : pG} {n : Nat} {K : Int → Nat × Nat} {F E : Int → Int → Int} {Q : Option pV → pM → Prop} {x0 x2 x3 : Int} (c0 : (-2147483648 ≤ pBnd x0 x2 x3 ∧ pBnd x0 x2 x3 < 2147483648)) (h : Q (some (0, pBnd x0 x2 x3)) (n, K, F, E)) : PC l G 0 mX12_bounded (0, 0) [(1, x0), (0, x2), (0, x3)] (n, K, F, E) Q := by
  show PW l G 0 mX12_bounded (0, 0) 0 [(0, (1, x0)), (2, (0, x2)), (3, (0, x3))] [] (n, K, F, E) Q
  refine vX12_bounded_0 _ _ _ ?_
  repeat' (first | (refine ⟨?_, ?_⟩) | (intro _))
  all_goals first | assumption | omega | exact h | (rw [show pBnd x0 x2 x3 = x0 by unfold pBnd; (repeat' split) <;> omega] at h; exact h) | (rw [show pBnd x0 x2 x3 = x2 by unfold pBnd; (repeat' split) <;> omega] at h; exact h) | (rw [show pBnd x0 x2 x3 = x3 by unfold pBnd; (repeat' split) <;> omega] at h; exact h) | (have e : pBnd x0 x2 x3 = x0 := (by unfold pBnd; (repeat' split) <;> omega); rw [e] at c0; omega)
theorem vX12_isField_0 {l : Launch} {G : pG} {bg : Nat × Nat} {n : Nat} {K : Int → Nat × Nat} {F E : Int → Int → Int} {Q : Option pV → pM → Prop} (x0 : Int) (h : Q (some (0, bI (0 ≤ x0 ∧ x0 ≤ 1))) (n, K, F, E)) : PW l G 1 mX12_isField bg 0 [(0, (0, x0))] [] (n, K, F, E) Q := by
  refine s_iload_n (q := 1) 0 0 rfl rfl ?_
  refine s_i2l (q := 2) 1 rfl ?_
  refine s_lconst (q := 3) (x := 0) 2 rfl ?_
  refine s_lconst (q := 4) (x := 1) 3 rfl ?_
  refine n_callS (N := mX12_in) (as := [(1, x0), (1, 0), (1, 1)]) (st := []) (q := 7) (d' := 0) 4 rfl uX12_in kX12_197 rfl (pX12_in ?_)
  show PW l G 1 mX12_isField bg 7 [(0, (0, x0))] [(0, bI (0 ≤ x0 ∧ x0 ≤ 1))] (n, K, F, E) Q
  exact s_zret 5 rfl rfl bI_01 h
theorem pX12_isField {l : Launch} {G : pG} {n : Nat} {K : Int → Nat × Nat} {F E : Int → Int → Int} {Q : Option pV → pM → Prop} {x0 : Int} (h : Q (some (0, bI (0 ≤ x0 ∧ x0 < 2))) (n, K, F, E)) : PC l G 1 mX12_isField (0, 0) [(0, x0)] (n, K, F, E) Q := by
  show PW l G 1 mX12_isField (0, 0) 0 [(0, (0, x0))] [] (n, K, F, E) Q
  refine vX12_isField_0 _ ?_
  repeat' (first | (refine ⟨?_, ?_⟩) | (intro _))
  all_goals first | assumption | omega | exact h | (exact (congrArg (fun z => Q (some (0, z)) (n, K, F, E)) (bI_iff (by omega))).mp h) | (rw [bI_no (by omega)] at h; exact h) | (rw [bI_of (by omega)] at h; exact h)
theorem vX12_isTuple_0 {l : Launch} {G : pG} {bg : Nat × Nat} {n : Nat} {K : Int → Nat × Nat} {F E : Int → Int → Int} {Q : Option pV → pM → Prop} (x0 x1 x2 : Int) (h : ((¬ (0 ≤ x0 ∧ x0 < 3) → Q (some (0, 0)) (n, K, F, E)) ∧ (0 ≤ x0 ∧ x0 < 3 → ((¬ (0 ≤ x1 ∧ x1 ≤ 9) → Q (some (0, 0)) (n, K, F, E)) ∧ (0 ≤ x1 ∧ x1 ≤ 9 → ((¬ (0 ≤ x2 ∧ x2 ≤ 9) → Q (some (0, 0)) (n, K, F, E)) ∧ (0 ≤ x2 ∧ x2 ≤ 9 → Q (some (0, 1)) (n, K, F, E)))))))) : PW l G 2 mX12_isTuple bg 0 [(0, (0, x0)), (1, (0, x1)), (2, (0, x2))] [] (n, K, F, E) Q := by
  refine s_iload_n (q := 1) 0 0 rfl rfl ?_
  refine n_callS (N := mX12_isRelation) (as := [(0, x0)]) (st := []) (q := 4) (d' := 1) 1 rfl uX12_isRelation kX12_201 rfl (pX12_isRelation ?_)
  show PW l G 2 mX12_isTuple bg 4 [(0, (0, x0)), (1, (0, x1)), (2, (0, x2))] [(0, bI (0 ≤ x0 ∧ x0 < 3))] (n, K, F, E) Q
  refine s_if_eq (q := 7) (tgt := 35) 2 rfl rfl (fun hb => ?_) (fun hb => ?_)
  · have hb := bI_f hb
    have b1 := hb
    replace h := h.1 hb
    refine s_iconst (q := 36) 17 rfl ?_
    exact s_zret 18 rfl rfl (by decide) h
  · have hb := bI_t hb
    have b1 := hb
    replace h := h.2 hb
    refine s_iload_n (q := 8) 3 1 rfl rfl ?_
    refine s_i2l (q := 9) 4 rfl ?_
    refine s_lconst (q := 10) (x := 0) 5 rfl ?_
    refine s_ldc2 (q := 13) (x := 9) 6 rfl kX12_205 ?_
    refine n_callS (N := mX12_in) (as := [(1, x1), (1, 0), (1, 9)]) (st := []) (q := 16) (d' := 0) 7 rfl uX12_in kX12_197 rfl (pX12_in ?_)
    show PW l G 2 mX12_isTuple bg 16 [(0, (0, x0)), (1, (0, x1)), (2, (0, x2))] [(0, bI (0 ≤ x1 ∧ x1 ≤ 9))] (n, K, F, E) Q
    refine s_if_eq (q := 19) (tgt := 35) 8 rfl rfl (fun hb => ?_) (fun hb => ?_)
    · have hb := bI_f hb
      have b2 := hb
      replace h := h.1 hb
      refine s_iconst (q := 36) 17 rfl ?_
      exact s_zret 18 rfl rfl (by decide) h
    · have hb := bI_t hb
      have b2 := hb
      replace h := h.2 hb
      refine s_iload_n (q := 20) 9 2 rfl rfl ?_
      refine s_i2l (q := 21) 10 rfl ?_
      refine s_lconst (q := 22) (x := 0) 11 rfl ?_
      refine s_ldc2 (q := 25) (x := 9) 12 rfl kX12_205 ?_
      refine n_callS (N := mX12_in) (as := [(1, x2), (1, 0), (1, 9)]) (st := []) (q := 28) (d' := 0) 13 rfl uX12_in kX12_197 rfl (pX12_in ?_)
      show PW l G 2 mX12_isTuple bg 28 [(0, (0, x0)), (1, (0, x1)), (2, (0, x2))] [(0, bI (0 ≤ x2 ∧ x2 ≤ 9))] (n, K, F, E) Q
      refine s_if_eq (q := 31) (tgt := 35) 14 rfl rfl (fun hb => ?_) (fun hb => ?_)
      · have hb := bI_f hb
        have b3 := hb
        replace h := h.1 hb
        refine s_iconst (q := 36) 17 rfl ?_
        exact s_zret 18 rfl rfl (by decide) h
      · have hb := bI_t hb
        have b3 := hb
        replace h := h.2 hb
        refine s_iconst (q := 32) 15 rfl ?_
        refine s_goto (tgt := 36) 16 rfl rfl ?_
        exact s_zret 18 rfl rfl (by decide) h
theorem pX12_isTuple {l : Launch} {G : pG} {n : Nat} {K : Int → Nat × Nat} {F E : Int → Int → Int} {Q : Option pV → pM → Prop} {x0 x1 x2 : Int} (h : Q (some (0, bI ((0 ≤ x0 ∧ x0 < 3) ∧ (0 ≤ x1 ∧ x1 < 10) ∧ (0 ≤ x2 ∧ x2 < 10)))) (n, K, F, E)) : PC l G 2 mX12_isTuple (0, 0) [(0, x0), (0, x1), (0, x2)] (n, K, F, E) Q := by
  show PW l G 2 mX12_isTuple (0, 0) 0 [(0, (0, x0)), (1, (0, x1)), (2, (0, x2))] [] (n, K, F, E) Q
  refine vX12_isTuple_0 _ _ _ ?_
  repeat' (first | (refine ⟨?_, ?_⟩) | (intro _))
  all_goals first | assumption | omega | exact h | (exact (congrArg (fun z => Q (some (0, z)) (n, K, F, E)) (bI_iff (by omega))).mp h) | (rw [bI_no (by omega)] at h; exact h) | (rw [bI_of (by omega)] at h; exact h)
theorem vX12_isOperator_0 {l : Launch} {G : pG} {bg : Nat × Nat} {n : Nat} {K : Int → Nat × Nat} {F E : Int → Int → Int} {Q : Option pV → pM → Prop} (x0 x1 : Int) (h : (K x0).1 = 12 ∧ (K (F x0 3)).1 = 20 ∧ ((0 : Int) ≤ 6 ∧ 6 < ((K (F x0 3)).2 : Int)) ∧ (-9223372036854775808 ≤ (E (F x0 3) 6) - 1 ∧ (E (F x0 3) 6) - 1 < 9223372036854775808) ∧ Q (some (0, bI (0 ≤ x1 ∧ x1 ≤ (E (F x0 3) 6) - 1))) (n, K, F, E)) : PW l G 1 mX12_isOperator bg 0 [(0, (2, x0)), (1, (0, x1))] [] (n, K, F, E) Q := by
  refine s_iload_n (q := 1) 0 1 rfl rfl ?_
  refine s_i2l (q := 2) 1 rfl ?_
  refine s_lconst (q := 3) (x := 0) 2 rfl ?_
  refine s_aload_n (q := 4) 3 0 rfl rfl ?_
  obtain ⟨c1, h⟩ := h
  refine n_getf (q := 7) (jj := 3) 4 12 3 rfl kX12_13 c1 ?_
  refine s_bipush (q := 9) 5 rfl ?_
  obtain ⟨c2, h⟩ := h
  obtain ⟨c3, h⟩ := h
  refine n_iald (q := 10) 6 rfl c2 c3 ?_
  refine s_i2l (q := 11) 7 rfl ?_
  refine s_lconst (q := 12) (x := 1) 8 rfl ?_
  obtain ⟨c4, h⟩ := h
  refine n_lsub (q := 13) 9 rfl c4 ?_
  refine n_callS (N := mX12_in) (as := [(1, x1), (1, 0), (1, (E (F x0 3) 6) - 1)]) (st := []) (q := 16) (d' := 0) 10 rfl uX12_in kX12_197 rfl (pX12_in ?_)
  show PW l G 1 mX12_isOperator bg 16 [(0, (2, x0)), (1, (0, x1))] [(0, bI (0 ≤ x1 ∧ x1 ≤ (E (F x0 3) 6) - 1))] (n, K, F, E) Q
  exact s_zret 11 rfl rfl bI_01 h
theorem pX12_isOperator {l : Launch} {G : pG} {n : Nat} {K : Int → Nat × Nat} {F E : Int → Int → Int} {Q : Option pV → pM → Prop} {x0 x1 : Int} (c0 : (K x0).1 = 12) (c1 : (K (F x0 3)).1 = 20) (c2 : ((0 : Int) ≤ 6 ∧ 6 < ((K (F x0 3)).2 : Int))) (c3 : (-9223372036854775808 ≤ (E (F x0 3) 6) - 1 ∧ (E (F x0 3) 6) - 1 < 9223372036854775808)) (h : Q (some (0, bI (0 ≤ x1 ∧ x1 ≤ (E (F x0 3) 6) - 1))) (n, K, F, E)) : PC l G 1 mX12_isOperator (0, 0) [(2, x0), (0, x1)] (n, K, F, E) Q := by
  show PW l G 1 mX12_isOperator (0, 0) 0 [(0, (2, x0)), (1, (0, x1))] [] (n, K, F, E) Q
  refine vX12_isOperator_0 _ _ ?_
  repeat' (first | (refine ⟨?_, ?_⟩) | (intro _))
  all_goals first | assumption | omega | exact h | (exact (congrArg (fun z => Q (some (0, z)) (n, K, F, E)) (bI_iff (by omega))).mp h) | (rw [bI_no (by omega)] at h; exact h) | (rw [bI_of (by omega)] at h; exact h)
theorem vX12_isSmall_0 {l : Launch} {G : pG} {bg : Nat × Nat} {n : Nat} {K : Int → Nat × Nat} {F E : Int → Int → Int} {Q : Option pV → pM → Prop} (x0 : Int) (h : ((x0 < 97 → Q (some (0, 0)) (n, K, F, E)) ∧ (¬ (x0 < 97) → ((122 < x0 → Q (some (0, 0)) (n, K, F, E)) ∧ (¬ (122 < x0) → Q (some (0, 1)) (n, K, F, E)))))) : PW l G 0 mX12_isSmall bg 0 [(0, (0, x0))] [] (n, K, F, E) Q := by
  refine s_iload_n (q := 1) 0 0 rfl rfl ?_
  refine s_bipush (q := 3) 1 rfl ?_
  refine s_icmp_lt (q := 6) (tgt := 16) 2 rfl rfl (fun hb => ?_) (fun hb => ?_)
  · skip
    have b1 := hb
    replace h := h.1 hb
    refine s_iconst (q := 17) 8 rfl ?_
    exact s_zret 9 rfl rfl (by decide) h
  · skip
    have b1 := hb
    replace h := h.2 hb
    refine s_iload_n (q := 7) 3 0 rfl rfl ?_
    refine s_bipush (q := 9) 4 rfl ?_
    refine s_icmp_gt (q := 12) (tgt := 16) 5 rfl rfl (fun hb => ?_) (fun hb => ?_)
    · skip
      have b2 := hb
      replace h := h.1 hb
      refine s_iconst (q := 17) 8 rfl ?_
      exact s_zret 9 rfl rfl (by decide) h
    · skip
      have b2 := hb
      replace h := h.2 hb
      refine s_iconst (q := 13) 6 rfl ?_
      refine s_goto (tgt := 17) 7 rfl rfl ?_
      exact s_zret 9 rfl rfl (by decide) h
theorem pX12_isSmall {l : Launch} {G : pG} {n : Nat} {K : Int → Nat × Nat} {F E : Int → Int → Int} {Q : Option pV → pM → Prop} {x0 : Int} (h : Q (some (0, bI (97 ≤ x0 ∧ x0 < 123))) (n, K, F, E)) : PC l G 0 mX12_isSmall (0, 0) [(0, x0)] (n, K, F, E) Q := by
  show PW l G 0 mX12_isSmall (0, 0) 0 [(0, (0, x0))] [] (n, K, F, E) Q
  refine vX12_isSmall_0 _ ?_
  repeat' (first | (refine ⟨?_, ?_⟩) | (intro _))
  all_goals first | assumption | omega | exact h | (exact (congrArg (fun z => Q (some (0, z)) (n, K, F, E)) (bI_iff (by omega))).mp h) | (rw [bI_no (by omega)] at h; exact h) | (rw [bI_of (by omega)] at h; exact h)
theorem vX12_isDigit_0 {l : Launch} {G : pG} {bg : Nat × Nat} {n : Nat} {K : Int → Nat × Nat} {F E : Int → Int → Int} {Q : Option pV → pM → Prop} (x0 : Int) (h : ((x0 < 48 → Q (some (0, 0)) (n, K, F, E)) ∧ (¬ (x0 < 48) → ((57 < x0 → Q (some (0, 0)) (n, K, F, E)) ∧ (¬ (57 < x0) → Q (some (0, 1)) (n, K, F, E)))))) : PW l G 0 mX12_isDigit bg 0 [(0, (0, x0))] [] (n, K, F, E) Q := by
  refine s_iload_n (q := 1) 0 0 rfl rfl ?_
  refine s_bipush (q := 3) 1 rfl ?_
  refine s_icmp_lt (q := 6) (tgt := 16) 2 rfl rfl (fun hb => ?_) (fun hb => ?_)
  · skip
    have b1 := hb
    replace h := h.1 hb
    refine s_iconst (q := 17) 8 rfl ?_
    exact s_zret 9 rfl rfl (by decide) h
  · skip
    have b1 := hb
    replace h := h.2 hb
    refine s_iload_n (q := 7) 3 0 rfl rfl ?_
    refine s_bipush (q := 9) 4 rfl ?_
    refine s_icmp_gt (q := 12) (tgt := 16) 5 rfl rfl (fun hb => ?_) (fun hb => ?_)
    · skip
      have b2 := hb
      replace h := h.1 hb
      refine s_iconst (q := 17) 8 rfl ?_
      exact s_zret 9 rfl rfl (by decide) h
    · skip
      have b2 := hb
      replace h := h.2 hb
      refine s_iconst (q := 13) 6 rfl ?_
      refine s_goto (tgt := 17) 7 rfl rfl ?_
      exact s_zret 9 rfl rfl (by decide) h
theorem pX12_isDigit {l : Launch} {G : pG} {n : Nat} {K : Int → Nat × Nat} {F E : Int → Int → Int} {Q : Option pV → pM → Prop} {x0 : Int} (h : Q (some (0, bI (48 ≤ x0 ∧ x0 < 58))) (n, K, F, E)) : PC l G 0 mX12_isDigit (0, 0) [(0, x0)] (n, K, F, E) Q := by
  show PW l G 0 mX12_isDigit (0, 0) 0 [(0, (0, x0))] [] (n, K, F, E) Q
  refine vX12_isDigit_0 _ ?_
  repeat' (first | (refine ⟨?_, ?_⟩) | (intro _))
  all_goals first | assumption | omega | exact h | (exact (congrArg (fun z => Q (some (0, z)) (n, K, F, E)) (bI_iff (by omega))).mp h) | (rw [bI_no (by omega)] at h; exact h) | (rw [bI_of (by omega)] at h; exact h)
theorem vX12_isWord_0 {l : Launch} {G : pG} {bg : Nat × Nat} {n : Nat} {K : Int → Nat × Nat} {F E : Int → Int → Int} {Q : Option pV → pM → Prop} (x0 x1 : Int) (h : (K x0).1 = 12 ∧ ((¬ (F x0 16) = 1 → Q (some (0, 0)) (n, K, F, E)) ∧ ((F x0 16) = 1 → ((¬ (F x0 17) = x1 → Q (some (0, 0)) (n, K, F, E)) ∧ ((F x0 17) = x1 → Q (some (0, 1)) (n, K, F, E)))))) : PW l G 0 mX12_isWord bg 0 [(0, (2, x0)), (1, (1, x1))] [] (n, K, F, E) Q := by
  refine s_aload_n (q := 1) 0 0 rfl rfl ?_
  obtain ⟨c1, h⟩ := h
  refine n_getf (q := 4) (jj := 16) 1 12 16 rfl kX12_272 c1 ?_
  refine s_iconst (q := 5) 2 rfl ?_
  refine s_icmp_ne (q := 8) (tgt := 21) 3 rfl rfl (fun hb => ?_) (fun hb => ?_)
  · skip
    have b2 := hb
    replace h := h.1 hb
    refine s_iconst (q := 22) 11 rfl ?_
    exact s_zret 12 rfl rfl (by decide) h
  · have hb := Classical.not_not.mp hb
    have b2 := hb
    replace h := h.2 hb
    refine s_aload_n (q := 9) 4 0 rfl rfl ?_
    refine n_getf (q := 12) (jj := 17) 5 12 17 rfl kX12_262 c1 ?_
    refine s_lload_n (q := 13) 6 1 rfl rfl ?_
    refine s_lcmp (q := 14) 7 rfl ?_
    refine s_if_ne (q := 17) (tgt := 21) 8 rfl rfl (fun hb => ?_) (fun hb => ?_)
    · have hb := mt lCmp_eq.mpr hb
      have b3 := hb
      replace h := h.1 hb
      refine s_iconst (q := 22) 11 rfl ?_
      exact s_zret 12 rfl rfl (by decide) h
    · have hb := lCmp_eq.mp (Classical.not_not.mp hb)
      have b3 := hb
      replace h := h.2 hb
      refine s_iconst (q := 18) 9 rfl ?_
      refine s_goto (tgt := 22) 10 rfl rfl ?_
      exact s_zret 12 rfl rfl (by decide) h
theorem pX12_isWord {l : Launch} {G : pG} {n : Nat} {K : Int → Nat × Nat} {F E : Int → Int → Int} {Q : Option pV → pM → Prop} {x0 x1 : Int} (c0 : (K x0).1 = 12) (h : Q (some (0, bI (F x0 16 = 1 ∧ F x0 17 = x1))) (n, K, F, E)) : PC l G 0 mX12_isWord (0, 0) [(2, x0), (1, x1)] (n, K, F, E) Q := by
  show PW l G 0 mX12_isWord (0, 0) 0 [(0, (2, x0)), (1, (1, x1))] [] (n, K, F, E) Q
  refine vX12_isWord_0 _ _ ?_
  repeat' (first | (refine ⟨?_, ?_⟩) | (intro _))
  all_goals first | assumption | omega | exact h | (exact (congrArg (fun z => Q (some (0, z)) (n, K, F, E)) (bI_iff (by omega))).mp h) | (rw [bI_no (by omega)] at h; exact h) | (rw [bI_of (by omega)] at h; exact h)
theorem vX12_isSign_0 {l : Launch} {G : pG} {bg : Nat × Nat} {n : Nat} {K : Int → Nat × Nat} {F E : Int → Int → Int} {Q : Option pV → pM → Prop} (x0 x1 : Int) (h : (K x0).1 = 12 ∧ ((¬ (F x0 16) = 3 → Q (some (0, 0)) (n, K, F, E)) ∧ ((F x0 16) = 3 → ((¬ (F x0 17) = x1 → Q (some (0, 0)) (n, K, F, E)) ∧ ((F x0 17) = x1 → Q (some (0, 1)) (n, K, F, E)))))) : PW l G 0 mX12_isSign bg 0 [(0, (2, x0)), (1, (0, x1))] [] (n, K, F, E) Q := by
  refine s_aload_n (q := 1) 0 0 rfl rfl ?_
  obtain ⟨c1, h⟩ := h
  refine n_getf (q := 4) (jj := 16) 1 12 16 rfl kX12_272 c1 ?_
  refine s_iconst (q := 5) 2 rfl ?_
  refine s_icmp_ne (q := 8) (tgt := 22) 3 rfl rfl (fun hb => ?_) (fun hb => ?_)
  · skip
    have b2 := hb
    replace h := h.1 hb
    refine s_iconst (q := 23) 12 rfl ?_
    exact s_zret 13 rfl rfl (by decide) h
  · have hb := Classical.not_not.mp hb
    have b2 := hb
    replace h := h.2 hb
    refine s_aload_n (q := 9) 4 0 rfl rfl ?_
    refine n_getf (q := 12) (jj := 17) 5 12 17 rfl kX12_262 c1 ?_
    refine s_iload_n (q := 13) 6 1 rfl rfl ?_
    refine s_i2l (q := 14) 7 rfl ?_
    refine s_lcmp (q := 15) 8 rfl ?_
    refine s_if_ne (q := 18) (tgt := 22) 9 rfl rfl (fun hb => ?_) (fun hb => ?_)
    · have hb := mt lCmp_eq.mpr hb
      have b3 := hb
      replace h := h.1 hb
      refine s_iconst (q := 23) 12 rfl ?_
      exact s_zret 13 rfl rfl (by decide) h
    · have hb := lCmp_eq.mp (Classical.not_not.mp hb)
      have b3 := hb
      replace h := h.2 hb
      refine s_iconst (q := 19) 10 rfl ?_
      refine s_goto (tgt := 23) 11 rfl rfl ?_
      exact s_zret 13 rfl rfl (by decide) h
theorem pX12_isSign {l : Launch} {G : pG} {n : Nat} {K : Int → Nat × Nat} {F E : Int → Int → Int} {Q : Option pV → pM → Prop} {x0 x1 : Int} (c0 : (K x0).1 = 12) (h : Q (some (0, bI (F x0 16 = 3 ∧ F x0 17 = x1))) (n, K, F, E)) : PC l G 0 mX12_isSign (0, 0) [(2, x0), (0, x1)] (n, K, F, E) Q := by
  show PW l G 0 mX12_isSign (0, 0) 0 [(0, (2, x0)), (1, (0, x1))] [] (n, K, F, E) Q
  refine vX12_isSign_0 _ _ ?_
  repeat' (first | (refine ⟨?_, ?_⟩) | (intro _))
  all_goals first | assumption | omega | exact h | (exact (congrArg (fun z => Q (some (0, z)) (n, K, F, E)) (bI_iff (by omega))).mp h) | (rw [bI_no (by omega)] at h; exact h) | (rw [bI_of (by omega)] at h; exact h)
theorem vX12_binds_0 {l : Launch} {G : pG} {bg : Nat × Nat} {n : Nat} {K : Int → Nat × Nat} {F E : Int → Int → Int} {Q : Option pV → pM → Prop} (x0 : Int) (h : ((x0 < 31 → ((¬ x0 = 30 → ((¬ x0 = 29 → ((¬ x0 = 28 → ((x0 < 25 → ((x0 < 22 → Q (some (0, 5)) (n, K, F, E)) ∧ (¬ (x0 < 22) → Q (some (0, 6)) (n, K, F, E)))) ∧ (¬ (x0 < 25) → Q (some (0, 4)) (n, K, F, E)))) ∧ (x0 = 28 → Q (some (0, 3)) (n, K, F, E)))) ∧ (x0 = 29 → Q (some (0, 2)) (n, K, F, E)))) ∧ (x0 = 30 → Q (some (0, 1)) (n, K, F, E)))) ∧ (¬ (x0 < 31) → Q (some (0, 0)) (n, K, F, E)))) : PW l G 0 mX12_binds bg 0 [(0, (0, x0))] [] (n, K, F, E) Q := by
  refine s_iload_n (q := 1) 0 0 rfl rfl ?_
  refine s_bipush (q := 3) 1 rfl ?_
  refine s_icmp_lt (q := 6) (tgt := 10) 2 rfl rfl (fun hb => ?_) (fun hb => ?_)
  · skip
    have b1 := hb
    replace h := h.1 hb
    refine s_iload_n (q := 11) 5 0 rfl rfl ?_
    refine s_bipush (q := 13) 6 rfl ?_
    refine s_icmp_ne (q := 16) (tgt := 20) 7 rfl rfl (fun hb => ?_) (fun hb => ?_)
    · skip
      have b2 := hb
      replace h := h.1 hb
      refine s_iload_n (q := 21) 10 0 rfl rfl ?_
      refine s_bipush (q := 23) 11 rfl ?_
      refine s_icmp_ne (q := 26) (tgt := 30) 12 rfl rfl (fun hb => ?_) (fun hb => ?_)
      · skip
        have b3 := hb
        replace h := h.1 hb
        refine s_iload_n (q := 31) 15 0 rfl rfl ?_
        refine s_bipush (q := 33) 16 rfl ?_
        refine s_icmp_ne (q := 36) (tgt := 40) 17 rfl rfl (fun hb => ?_) (fun hb => ?_)
        · skip
          have b4 := hb
          replace h := h.1 hb
          refine s_iload_n (q := 41) 20 0 rfl rfl ?_
          refine s_bipush (q := 43) 21 rfl ?_
          refine s_icmp_lt (q := 46) (tgt := 50) 22 rfl rfl (fun hb => ?_) (fun hb => ?_)
          · skip
            have b5 := hb
            replace h := h.1 hb
            refine s_iload_n (q := 51) 25 0 rfl rfl ?_
            refine s_bipush (q := 53) 26 rfl ?_
            refine s_icmp_lt (q := 56) (tgt := 61) 27 rfl rfl (fun hb => ?_) (fun hb => ?_)
            · skip
              have b6 := hb
              replace h := h.1 hb
              refine s_iconst (q := 62) 30 rfl ?_
              exact s_iret 31 rfl rfl h
            · skip
              have b6 := hb
              replace h := h.2 hb
              refine s_bipush (q := 58) 28 rfl ?_
              refine s_goto (tgt := 62) 29 rfl rfl ?_
              exact s_iret 31 rfl rfl h
          · skip
            have b5 := hb
            replace h := h.2 hb
            refine s_iconst (q := 47) 23 rfl ?_
            refine s_goto (tgt := 62) 24 rfl rfl ?_
            exact s_iret 31 rfl rfl h
        · have hb := Classical.not_not.mp hb
          have b4 := hb
          replace h := h.2 hb
          refine s_iconst (q := 37) 18 rfl ?_
          refine s_goto (tgt := 62) 19 rfl rfl ?_
          exact s_iret 31 rfl rfl h
      · have hb := Classical.not_not.mp hb
        have b3 := hb
        replace h := h.2 hb
        refine s_iconst (q := 27) 13 rfl ?_
        refine s_goto (tgt := 62) 14 rfl rfl ?_
        exact s_iret 31 rfl rfl h
    · have hb := Classical.not_not.mp hb
      have b2 := hb
      replace h := h.2 hb
      refine s_iconst (q := 17) 8 rfl ?_
      refine s_goto (tgt := 62) 9 rfl rfl ?_
      exact s_iret 31 rfl rfl h
  · skip
    have b1 := hb
    replace h := h.2 hb
    refine s_iconst (q := 7) 3 rfl ?_
    refine s_goto (tgt := 62) 4 rfl rfl ?_
    exact s_iret 31 rfl rfl h
theorem pX12_binds {l : Launch} {G : pG} {n : Nat} {K : Int → Nat × Nat} {F E : Int → Int → Int} {Q : Option pV → pM → Prop} {x0 : Int} (h : Q (some (0, pBinds x0)) (n, K, F, E)) : PC l G 0 mX12_binds (0, 0) [(0, x0)] (n, K, F, E) Q := by
  show PW l G 0 mX12_binds (0, 0) 0 [(0, (0, x0))] [] (n, K, F, E) Q
  refine vX12_binds_0 _ ?_
  repeat' (first | (refine ⟨?_, ?_⟩) | (intro _))
  all_goals first | assumption | omega | exact h | (rw [show pBinds x0 = 0 by unfold pBinds; (repeat' split) <;> omega] at h; exact h) | (rw [show pBinds x0 = 1 by unfold pBinds; (repeat' split) <;> omega] at h; exact h) | (rw [show pBinds x0 = 2 by unfold pBinds; (repeat' split) <;> omega] at h; exact h) | (rw [show pBinds x0 = 3 by unfold pBinds; (repeat' split) <;> omega] at h; exact h) | (rw [show pBinds x0 = 4 by unfold pBinds; (repeat' split) <;> omega] at h; exact h) | (rw [show pBinds x0 = 5 by unfold pBinds; (repeat' split) <;> omega] at h; exact h) | (rw [show pBinds x0 = 6 by unfold pBinds; (repeat' split) <;> omega] at h; exact h)
theorem vX12_isLaw_0 {l : Launch} {G : pG} {bg : Nat × Nat} {n : Nat} {K : Int → Nat × Nat} {F E : Int → Int → Int} {Q : Option pV → pM → Prop} (x0 x1 : Int) (h : ((x1 = (-1) → Q (some (0, 1)) (n, K, F, E)) ∧ (¬ (x1 = (-1)) → (K x0).1 = 12 ∧ (K (F x0 3)).1 = 20 ∧ ((0 : Int) ≤ 1 ∧ 1 < ((K (F x0 3)).2 : Int)) ∧ (-9223372036854775808 ≤ (E (F x0 3) 1) - 1 ∧ (E (F x0 3) 1) - 1 < 9223372036854775808) ∧ ((¬ (0 ≤ x1 ∧ x1 ≤ (E (F x0 3) 1) - 1) → Q (some (0, 0)) (n, K, F, E)) ∧ (0 ≤ x1 ∧ x1 ≤ (E (F x0 3) 1) - 1 → Q (some (0, 1)) (n, K, F, E)))))) : PW l G 1 mX12_isLaw bg 0 [(0, (2, x0)), (1, (0, x1))] [] (n, K, F, E) Q := by
  refine s_iload_n (q := 1) 0 1 rfl rfl ?_
  refine s_iconst (q := 2) 1 rfl ?_
  refine s_icmp_eq (q := 5) (tgt := 23) 2 rfl rfl (fun hb => ?_) (fun hb => ?_)
  · skip
    have b1 := hb
    replace h := h.1 hb
    refine s_iconst (q := 24) 15 rfl ?_
    refine s_goto (tgt := 28) 16 rfl rfl ?_
    exact s_zret 18 rfl rfl (by decide) h
  · skip
    have b1 := hb
    replace h := h.2 hb
    refine s_iload_n (q := 6) 3 1 rfl rfl ?_
    refine s_i2l (q := 7) 4 rfl ?_
    refine s_lconst (q := 8) (x := 0) 5 rfl ?_
    refine s_aload_n (q := 9) 6 0 rfl rfl ?_
    obtain ⟨c2, h⟩ := h
    refine n_getf (q := 12) (jj := 3) 7 12 3 rfl kX12_13 c2 ?_
    refine s_iconst (q := 13) 8 rfl ?_
    obtain ⟨c3, h⟩ := h
    obtain ⟨c4, h⟩ := h
    refine n_iald (q := 14) 9 rfl c3 c4 ?_
    refine s_i2l (q := 15) 10 rfl ?_
    refine s_lconst (q := 16) (x := 1) 11 rfl ?_
    obtain ⟨c5, h⟩ := h
    refine n_lsub (q := 17) 12 rfl c5 ?_
    refine n_callS (N := mX12_in) (as := [(1, x1), (1, 0), (1, (E (F x0 3) 1) - 1)]) (st := []) (q := 20) (d' := 0) 13 rfl uX12_in kX12_197 rfl (pX12_in ?_)
    show PW l G 1 mX12_isLaw bg 20 [(0, (2, x0)), (1, (0, x1))] [(0, bI (0 ≤ x1 ∧ x1 ≤ (E (F x0 3) 1) - 1))] (n, K, F, E) Q
    refine s_if_eq (q := 23) (tgt := 27) 14 rfl rfl (fun hb => ?_) (fun hb => ?_)
    · have hb := bI_f hb
      have b6 := hb
      replace h := h.1 hb
      refine s_iconst (q := 28) 17 rfl ?_
      exact s_zret 18 rfl rfl (by decide) h
    · have hb := bI_t hb
      have b6 := hb
      replace h := h.2 hb
      refine s_iconst (q := 24) 15 rfl ?_
      refine s_goto (tgt := 28) 16 rfl rfl ?_
      exact s_zret 18 rfl rfl (by decide) h
theorem pX12_isLaw {l : Launch} {G : pG} {n : Nat} {K : Int → Nat × Nat} {F E : Int → Int → Int} {Q : Option pV → pM → Prop} {x0 x1 : Int} (c0 : (K x0).1 = 12) (c1 : (K (F x0 3)).1 = 20) (c2 : ((0 : Int) ≤ 1 ∧ 1 < ((K (F x0 3)).2 : Int))) (c3 : (-9223372036854775808 ≤ (E (F x0 3) 1) - 1 ∧ (E (F x0 3) 1) - 1 < 9223372036854775808)) (h : Q (some (0, bI (x1 = -1 ∨ (0 ≤ x1 ∧ x1 ≤ (E (F x0 3) 1) - 1)))) (n, K, F, E)) : PC l G 1 mX12_isLaw (0, 0) [(2, x0), (0, x1)] (n, K, F, E) Q := by
  show PW l G 1 mX12_isLaw (0, 0) 0 [(0, (2, x0)), (1, (0, x1))] [] (n, K, F, E) Q
  refine vX12_isLaw_0 _ _ ?_
  repeat' (first | (refine ⟨?_, ?_⟩) | (intro _))
  all_goals first | assumption | omega | exact h | (exact (congrArg (fun z => Q (some (0, z)) (n, K, F, E)) (bI_iff (by omega))).mp h) | (rw [bI_no (by omega)] at h; exact h) | (rw [bI_of (by omega)] at h; exact h)
theorem vX12_hasTuple_0 {l : Launch} {G : pG} {bg : Nat × Nat} {n : Nat} {K : Int → Nat × Nat} {F E : Int → Int → Int} {Q : Option pV → pM → Prop} (x0 x1 x2 : Int) (h : (K x0).1 = 12 ∧ (-2147483648 ≤ 3 * x1 ∧ 3 * x1 < 2147483648) ∧ (-2147483648 ≤ (3 * x1) + x2 ∧ (3 * x1) + x2 < 2147483648) ∧ (K (F x0 41)).1 = 20 ∧ ((0 : Int) ≤ (3 * x1) + x2 ∧ (3 * x1) + x2 < ((K (F x0 41)).2 : Int)) ∧ ((E (F x0 41) ((3 * x1) + x2) ≤ 0 → Q (some (0, 0)) (n, K, F, E)) ∧ (¬ (E (F x0 41) ((3 * x1) + x2) ≤ 0) → Q (some (0, 1)) (n, K, F, E)))) : PW l G 0 mX12_hasTuple bg 0 [(0, (2, x0)), (1, (0, x1)), (2, (0, x2))] [] (n, K, F, E) Q := by
  refine s_aload_n (q := 1) 0 0 rfl rfl ?_
  obtain ⟨c1, h⟩ := h
  refine n_getf (q := 4) (jj := 41) 1 12 41 rfl kX12_106 c1 ?_
  refine s_iconst (q := 5) 2 rfl ?_
  refine s_iload_n (q := 6) 3 1 rfl rfl ?_
  obtain ⟨c2, h⟩ := h
  refine n_imul (q := 7) 4 rfl c2 ?_
  refine s_iload_n (q := 8) 5 2 rfl rfl ?_
  obtain ⟨c3, h⟩ := h
  refine n_iadd (q := 9) 6 rfl c3 ?_
  obtain ⟨c4, h⟩ := h
  obtain ⟨c5, h⟩ := h
  refine n_iald (q := 10) 7 rfl c4 c5 ?_
  refine s_if_le (q := 13) (tgt := 17) 8 rfl rfl (fun hb => ?_) (fun hb => ?_)
  · skip
    have b6 := hb
    replace h := h.1 hb
    refine s_iconst (q := 18) 11 rfl ?_
    exact s_zret 12 rfl rfl (by decide) h
  · skip
    have b6 := hb
    replace h := h.2 hb
    refine s_iconst (q := 14) 9 rfl ?_
    refine s_goto (tgt := 18) 10 rfl rfl ?_
    exact s_zret 12 rfl rfl (by decide) h
theorem pX12_hasTuple {l : Launch} {G : pG} {n : Nat} {K : Int → Nat × Nat} {F E : Int → Int → Int} {Q : Option pV → pM → Prop} {x0 x1 x2 : Int} (c0 : (K x0).1 = 12) (c1 : (-2147483648 ≤ 3 * x1 ∧ 3 * x1 < 2147483648)) (c2 : (-2147483648 ≤ (3 * x1) + x2 ∧ (3 * x1) + x2 < 2147483648)) (c3 : (K (F x0 41)).1 = 20) (c4 : ((0 : Int) ≤ (3 * x1) + x2 ∧ (3 * x1) + x2 < ((K (F x0 41)).2 : Int))) (h : Q (some (0, bI (0 < E (F x0 41) ((3 * x1) + x2)))) (n, K, F, E)) : PC l G 0 mX12_hasTuple (0, 0) [(2, x0), (0, x1), (0, x2)] (n, K, F, E) Q := by
  show PW l G 0 mX12_hasTuple (0, 0) 0 [(0, (2, x0)), (1, (0, x1)), (2, (0, x2))] [] (n, K, F, E) Q
  refine vX12_hasTuple_0 _ _ _ ?_
  repeat' (first | (refine ⟨?_, ?_⟩) | (intro _))
  all_goals first | assumption | omega | exact h | (exact (congrArg (fun z => Q (some (0, z)) (n, K, F, E)) (bI_iff (by omega))).mp h) | (rw [bI_no (by omega)] at h; exact h) | (rw [bI_of (by omega)] at h; exact h)
