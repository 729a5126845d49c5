theorem vX0_fact_0 {l : Launch} {G : pG} {bg : Nat × Nat} {n : Nat} {K : Int → Nat × Nat} {F E : Int → Int → Int} {Q : Option pV → pM → Prop} (x0 x1 x2 x3 : Int) (h : ((¬ x3 = 0 → (-2147483648 ≤ x3 - 1 ∧ x3 - 1 < 2147483648) ∧ (K x0).1 = 0 ∧ (-2147483648 ≤ x1 * 9 ∧ x1 * 9 < 2147483648) ∧ (-2147483648 ≤ (x1 * 9) + x2 ∧ (x1 * 9) + x2 < 2147483648) ∧ (-2147483648 ≤ ((x1 * 9) + x2) * 3 ∧ ((x1 * 9) + x2) * 3 < 2147483648) ∧ (-2147483648 ≤ 36 + (((x1 * 9) + x2) * 3) ∧ 36 + (((x1 * 9) + x2) * 3) < 2147483648) ∧ (-2147483648 ≤ (36 + (((x1 * 9) + x2) * 3)) + (x3 - 1) ∧ (36 + (((x1 * 9) + x2) * 3)) + (x3 - 1) < 2147483648) ∧ (K (F x0 0)).1 = 20 ∧ ((0 : Int) ≤ (36 + (((x1 * 9) + x2) * 3)) + (x3 - 1) ∧ (36 + (((x1 * 9) + x2) * 3)) + (x3 - 1) < ((K (F x0 0)).2 : Int)) ∧ (∀ a1, a1 = E (F x0 0) ((36 + (((x1 * 9) + x2) * 3)) + (x3 - 1)) → Q (some (0, a1)) (n, K, F, E))) ∧ (x3 = 0 → Q (some (0, x1)) (n, K, F, E)))) : PW l G 1 mX0_fact bg 0 [(0, (2, x0)), (1, (0, x1)), (2, (0, x2)), (3, (0, x3))] [] (n, K, F, E) Q := by
  refine s_iload_n (q := 1) 0 3 rfl rfl ?_
  refine s_if_ne (q := 4) (tgt := 8) 1 rfl rfl (fun hb => ?_) (fun hb => ?_)
  · skip
    have b1 := hb
    replace h := h.1 hb
    refine s_aload_n (q := 9) 4 0 rfl rfl ?_
    refine s_iload_n (q := 10) 5 1 rfl rfl ?_
    refine s_iload_n (q := 11) 6 2 rfl rfl ?_
    refine s_iload_n (q := 12) 7 3 rfl rfl ?_
    refine s_iconst (q := 13) 8 rfl ?_
    obtain ⟨c2, h⟩ := h
    refine n_isub (q := 14) 9 rfl c2 ?_
    obtain ⟨c3, h⟩ := h
    refine n_callV (N := mX0_cell) (as := [(0, x1), (0, x2), (0, x3 - 1)]) (st := []) (q := 17) (d' := 0) 10 rfl uX0_cell kX0_21 rfl c3 ?_
    show PW l G 0 mX0_cell (0, 0) 0 [(0, (2, x0)), (1, (0, x1)), (2, (0, x2)), (3, (0, x3 - 1))] [] (n, K, F, E) _
    refine s_aload_n (q := 1) 0 0 rfl rfl ?_
    refine n_getf (q := 4) (jj := 0) 1 0 0 rfl kX0_11 c3 ?_
    refine s_bipush (q := 6) 2 rfl ?_
    refine s_iload_n (q := 7) 3 1 rfl rfl ?_
    refine s_bipush (q := 9) 4 rfl ?_
    obtain ⟨c4, h⟩ := h
    refine n_imul (q := 10) 5 rfl c4 ?_
    refine s_iload_n (q := 11) 6 2 rfl rfl ?_
    obtain ⟨c5, h⟩ := h
    refine n_iadd (q := 12) 7 rfl c5 ?_
    refine s_iconst (q := 13) 8 rfl ?_
    obtain ⟨c6, h⟩ := h
    refine n_imul (q := 14) 9 rfl c6 ?_
    obtain ⟨c7, h⟩ := h
    refine n_iadd (q := 15) 10 rfl c7 ?_
    refine s_iload_n (q := 16) 11 3 rfl rfl ?_
    obtain ⟨c8, h⟩ := h
    refine n_iadd (q := 17) 12 rfl c8 ?_
    obtain ⟨c9, h⟩ := h
    obtain ⟨c10, h⟩ := h
    refine n_iald (q := 18) 13 rfl c9 c10 ?_
    refine PW.name (fun a1 ea1 => ?_)
    replace h := h a1 ea1
    refine s_iret 14 rfl rfl ?_
    show PW l G 1 mX0_fact bg 17 [(0, (2, x0)), (1, (0, x1)), (2, (0, x2)), (3, (0, x3))] [(0, a1)] (n, K, F, E) Q
    exact s_iret 11 rfl rfl h
  · have hb := Classical.not_not.mp hb
    have b1 := hb
    replace h := h.2 hb
    refine s_iload_n (q := 5) 2 1 rfl rfl ?_
    refine s_goto (tgt := 17) 3 rfl rfl ?_
    exact s_iret 11 rfl rfl h
theorem vX0_addOperator_0 {l : Launch} {G : pG} {bg : Nat × Nat} {n : Nat} {K : Int → Nat × Nat} {F E : Int → Int → Int} {Q : Option pV → pM → Prop} (x0 x1 x2 x3 x4 x5 : Int) (h : (K x0).1 = 0 ∧ (K (F x0 0)).1 = 20 ∧ ((0 : Int) ≤ 0 ∧ 0 < ((K (F x0 0)).2 : Int)) ∧ (-2147483648 ≤ (E (F x0 0) 0) * 6 ∧ (E (F x0 0) 0) * 6 < 2147483648) ∧ (-2147483648 ≤ 12 + ((E (F x0 0) 0) * 6) ∧ 12 + ((E (F x0 0) 0) * 6) < 2147483648) ∧ (0 : Int) ≤ F x0 0 ∧ ((0 : Int) ≤ 12 + ((E (F x0 0) 0) * 6) ∧ 12 + ((E (F x0 0) 0) * 6) < ((K (F x0 0)).2 : Int)) ∧ (∀ E1, E1 = pUp E (F x0 0) (12 + ((E (F x0 0) 0) * 6)) x1 → (-2147483648 ≤ (12 + ((E (F x0 0) 0) * 6)) + 1 ∧ (12 + ((E (F x0 0) 0) * 6)) + 1 < 2147483648) ∧ ((0 : Int) ≤ (12 + ((E (F x0 0) 0) * 6)) + 1 ∧ (12 + ((E (F x0 0) 0) * 6)) + 1 < ((K (F x0 0)).2 : Int)) ∧ (∀ E2, E2 = pUp E1 (F x0 0) ((12 + ((E (F x0 0) 0) * 6)) + 1) x2 → (-2147483648 ≤ (12 + ((E (F x0 0) 0) * 6)) + 2 ∧ (12 + ((E (F x0 0) 0) * 6)) + 2 < 2147483648) ∧ ((0 : Int) ≤ (12 + ((E (F x0 0) 0) * 6)) + 2 ∧ (12 + ((E (F x0 0) 0) * 6)) + 2 < ((K (F x0 0)).2 : Int)) ∧ (∀ E3, E3 = pUp E2 (F x0 0) ((12 + ((E (F x0 0) 0) * 6)) + 2) x3 → (-2147483648 ≤ (12 + ((E (F x0 0) 0) * 6)) + 3 ∧ (12 + ((E (F x0 0) 0) * 6)) + 3 < 2147483648) ∧ ((0 : Int) ≤ (12 + ((E (F x0 0) 0) * 6)) + 3 ∧ (12 + ((E (F x0 0) 0) * 6)) + 3 < ((K (F x0 0)).2 : Int)) ∧ (∀ E4, E4 = pUp E3 (F x0 0) ((12 + ((E (F x0 0) 0) * 6)) + 3) x4 → (-2147483648 ≤ (12 + ((E (F x0 0) 0) * 6)) + 4 ∧ (12 + ((E (F x0 0) 0) * 6)) + 4 < 2147483648) ∧ ((0 : Int) ≤ (12 + ((E (F x0 0) 0) * 6)) + 4 ∧ (12 + ((E (F x0 0) 0) * 6)) + 4 < ((K (F x0 0)).2 : Int)) ∧ (∀ E5, E5 = pUp E4 (F x0 0) ((12 + ((E (F x0 0) 0) * 6)) + 4) x5 → (-2147483648 ≤ (12 + ((E (F x0 0) 0) * 6)) + 5 ∧ (12 + ((E (F x0 0) 0) * 6)) + 5 < 2147483648) ∧ ((0 : Int) ≤ (12 + ((E (F x0 0) 0) * 6)) + 5 ∧ (12 + ((E (F x0 0) 0) * 6)) + 5 < ((K (F x0 0)).2 : Int)) ∧ (∀ E6, E6 = pUp E5 (F x0 0) ((12 + ((E (F x0 0) 0) * 6)) + 5) 0 → (-2147483648 ≤ (E (F x0 0) 0) + 1 ∧ (E (F x0 0) 0) + 1 < 2147483648) ∧ (∀ E7, E7 = pUp E6 (F x0 0) 0 ((E (F x0 0) 0) + 1) → Q (some (0, E (F x0 0) 0)) (n, K, F, E7))))))))) : PW l G 0 mX0_addOperator bg 0 [(0, (2, x0)), (1, (0, x1)), (2, (0, x2)), (3, (0, x3)), (4, (0, x4)), (5, (0, x5))] [] (n, K, F, E) Q := by
  refine s_aload_n (q := 1) 0 0 rfl rfl ?_
  obtain ⟨c1, h⟩ := h
  refine n_getf (q := 4) (jj := 0) 1 0 0 rfl kX0_11 c1 ?_
  refine s_iconst (q := 5) 2 rfl ?_
  obtain ⟨c2, h⟩ := h
  obtain ⟨c3, h⟩ := h
  refine n_iald (q := 6) 3 rfl c2 c3 ?_
  refine s_istore (q := 8) (lv' := [(6, (0, E (F x0 0) 0)), (0, (2, x0)), (1, (0, x1)), (2, (0, x2)), (3, (0, x3)), (4, (0, x4)), (5, (0, x5))]) 4 rfl rfl ?_
  refine s_bipush (q := 10) 5 rfl ?_
  refine s_iload (q := 12) 6 0 rfl rfl ?_
  refine s_bipush (q := 14) 7 rfl ?_
  obtain ⟨c4, h⟩ := h
  refine n_imul (q := 15) 8 rfl c4 ?_
  obtain ⟨c5, h⟩ := h
  refine n_iadd (q := 16) 9 rfl c5 ?_
  refine s_istore (q := 18) (lv' := [(7, (0, 12 + ((E (F x0 0) 0) * 6))), (6, (0, E (F x0 0) 0)), (0, (2, x0)), (1, (0, x1)), (2, (0, x2)), (3, (0, x3)), (4, (0, x4)), (5, (0, x5))]) 10 rfl rfl ?_
  refine s_aload_n (q := 19) 11 2 rfl rfl ?_
  refine n_getf (q := 22) (jj := 0) 12 0 0 rfl kX0_11 c1 ?_
  refine s_iload (q := 24) 13 0 rfl rfl ?_
  refine s_iload_n (q := 25) 14 3 rfl rfl ?_
  obtain ⟨c6, h⟩ := h
  obtain ⟨c7, h⟩ := h
  refine n_iast (q := 26) 15 rfl c6 c2 c7 ?_
  refine PW.nameE (fun E1 eE1 => ?_)
  replace h := h E1 eE1
  refine s_aload_n (q := 27) 16 2 rfl rfl ?_
  refine n_getf (q := 30) (jj := 0) 17 0 0 rfl kX0_11 c1 ?_
  refine s_iload (q := 32) 18 0 rfl rfl ?_
  refine s_iconst (q := 33) 19 rfl ?_
  obtain ⟨c8, h⟩ := h
  refine n_iadd (q := 34) 20 rfl c8 ?_
  refine s_iload_n (q := 35) 21 4 rfl rfl ?_
  obtain ⟨c9, h⟩ := h
  refine n_iast (q := 36) 22 rfl c6 c2 c9 ?_
  refine PW.nameE (fun E2 eE2 => ?_)
  replace h := h E2 eE2
  refine s_aload_n (q := 37) 23 2 rfl rfl ?_
  refine n_getf (q := 40) (jj := 0) 24 0 0 rfl kX0_11 c1 ?_
  refine s_iload (q := 42) 25 0 rfl rfl ?_
  refine s_iconst (q := 43) 26 rfl ?_
  obtain ⟨c10, h⟩ := h
  refine n_iadd (q := 44) 27 rfl c10 ?_
  refine s_iload_n (q := 45) 28 5 rfl rfl ?_
  obtain ⟨c11, h⟩ := h
  refine n_iast (q := 46) 29 rfl c6 c2 c11 ?_
  refine PW.nameE (fun E3 eE3 => ?_)
  replace h := h E3 eE3
  refine s_aload_n (q := 47) 30 2 rfl rfl ?_
  refine n_getf (q := 50) (jj := 0) 31 0 0 rfl kX0_11 c1 ?_
  refine s_iload (q := 52) 32 0 rfl rfl ?_
  refine s_iconst (q := 53) 33 rfl ?_
  obtain ⟨c12, h⟩ := h
  refine n_iadd (q := 54) 34 rfl c12 ?_
  refine s_iload (q := 56) 35 6 rfl rfl ?_
  obtain ⟨c13, h⟩ := h
  refine n_iast (q := 57) 36 rfl c6 c2 c13 ?_
  refine PW.nameE (fun E4 eE4 => ?_)
  replace h := h E4 eE4
  refine s_aload_n (q := 58) 37 2 rfl rfl ?_
  refine n_getf (q := 61) (jj := 0) 38 0 0 rfl kX0_11 c1 ?_
  refine s_iload (q := 63) 39 0 rfl rfl ?_
  refine s_iconst (q := 64) 40 rfl ?_
  obtain ⟨c14, h⟩ := h
  refine n_iadd (q := 65) 41 rfl c14 ?_
  refine s_iload (q := 67) 42 7 rfl rfl ?_
  obtain ⟨c15, h⟩ := h
  refine n_iast (q := 68) 43 rfl c6 c2 c15 ?_
  refine PW.nameE (fun E5 eE5 => ?_)
  replace h := h E5 eE5
  refine s_aload_n (q := 69) 44 2 rfl rfl ?_
  refine n_getf (q := 72) (jj := 0) 45 0 0 rfl kX0_11 c1 ?_
  refine s_iload (q := 74) 46 0 rfl rfl ?_
  refine s_iconst (q := 75) 47 rfl ?_
  obtain ⟨c16, h⟩ := h
  refine n_iadd (q := 76) 48 rfl c16 ?_
  refine s_iconst (q := 77) 49 rfl ?_
  obtain ⟨c17, h⟩ := h
  refine n_iast (q := 78) 50 rfl c6 c2 c17 ?_
  refine PW.nameE (fun E6 eE6 => ?_)
  replace h := h E6 eE6
  refine s_aload_n (q := 79) 51 2 rfl rfl ?_
  refine n_getf (q := 82) (jj := 0) 52 0 0 rfl kX0_11 c1 ?_
  refine s_iconst (q := 83) 53 rfl ?_
  refine s_iload (q := 85) 54 1 rfl rfl ?_
  refine s_iconst (q := 86) 55 rfl ?_
  obtain ⟨c18, h⟩ := h
  refine n_iadd (q := 87) 56 rfl c18 ?_
  refine n_iast (q := 88) 57 rfl c6 c2 c3 ?_
  refine PW.nameE (fun E7 eE7 => ?_)
  replace h := h E7 eE7
  refine s_iload (q := 90) 58 1 rfl rfl ?_
  exact s_iret 59 rfl rfl h
theorem vX0_removeOperator_0 {l : Launch} {G : pG} {bg : Nat × Nat} {n : Nat} {K : Int → Nat × Nat} {F E : Int → Int → Int} {Q : Option pV → pM → Prop} (x0 x1 : Int) (h : (K x0).1 = 0 ∧ (K (F x0 0)).1 = 20 ∧ ((0 : Int) ≤ 0 ∧ 0 < ((K (F x0 0)).2 : Int)) ∧ (-2147483648 ≤ (E (F x0 0) 0) - 1 ∧ (E (F x0 0) 0) - 1 < 2147483648) ∧ (0 : Int) ≤ F x0 0 ∧ (∀ E1, E1 = pUp E (F x0 0) 0 ((E (F x0 0) 0) - 1) → (-2147483648 ≤ ((E (F x0 0) 0) - 1) * 6 ∧ ((E (F x0 0) 0) - 1) * 6 < 2147483648) ∧ (-2147483648 ≤ 12 + (((E (F x0 0) 0) - 1) * 6) ∧ 12 + (((E (F x0 0) 0) - 1) * 6) < 2147483648) ∧ (-2147483648 ≤ x1 * 6 ∧ x1 * 6 < 2147483648) ∧ (-2147483648 ≤ 12 + (x1 * 6) ∧ 12 + (x1 * 6) < 2147483648) ∧ PW l G 0 mX0_removeOperator bg 31 [(0, (2, x0)), (2, (0, 12 + (((E (F x0 0) 0) - 1) * 6))), (3, (0, 12 + (x1 * 6)))] [] (n, K, F, E1) Q)) : PW l G 0 mX0_removeOperator bg 0 [(0, (2, x0)), (1, (0, x1))] [] (n, K, F, E) Q := by
  refine s_aload_n (q := 1) 0 0 rfl rfl ?_
  obtain ⟨c1, h⟩ := h
  refine n_getf (q := 4) (jj := 0) 1 0 0 rfl kX0_11 c1 ?_
  refine s_iconst (q := 5) 2 rfl ?_
  refine s_dup2 (q := 6) 3 rfl ?_
  obtain ⟨c2, h⟩ := h
  obtain ⟨c3, h⟩ := h
  refine n_iald (q := 7) 4 rfl c2 c3 ?_
  refine s_iconst (q := 8) 5 rfl ?_
  obtain ⟨c4, h⟩ := h
  refine n_isub (q := 9) 6 rfl c4 ?_
  obtain ⟨c5, h⟩ := h
  refine n_iast (q := 10) 7 rfl c5 c2 c3 ?_
  refine PW.nameE (fun E1 eE1 => ?_)
  replace h := h E1 eE1
  refine s_bipush (q := 12) 8 rfl ?_
  refine s_aload_n (q := 13) 9 0 rfl rfl ?_
  refine n_getf (q := 16) (jj := 0) 10 0 0 rfl kX0_11 c1 ?_
  refine s_iconst (q := 17) 11 rfl ?_
  refine n_iald (q := 18) 12 rfl c2 c3 ?_
  refine PW.top (b := (E (F x0 0) 0) - 1) (by exact (congrFun (congrFun eE1 _) _).trans pUp_s) ?_
  refine s_bipush (q := 20) 13 rfl ?_
  obtain ⟨c6, h⟩ := h
  refine n_imul (q := 21) 14 rfl c6 ?_
  obtain ⟨c7, h⟩ := h
  refine n_iadd (q := 22) 15 rfl c7 ?_
  refine s_istore_n (q := 23) (lv' := [(2, (0, 12 + (((E (F x0 0) 0) - 1) * 6))), (0, (2, x0)), (1, (0, x1))]) 16 rfl rfl ?_
  refine s_bipush (q := 25) 17 rfl ?_
  refine s_iload_n (q := 26) 18 2 rfl rfl ?_
  refine s_bipush (q := 28) 19 rfl ?_
  obtain ⟨c8, h⟩ := h
  refine n_imul (q := 29) 20 rfl c8 ?_
  obtain ⟨c9, h⟩ := h
  refine n_iadd (q := 30) 21 rfl c9 ?_
  refine s_istore_n (q := 31) (lv' := [(3, (0, 12 + (x1 * 6))), (2, (0, 12 + (((E (F x0 0) 0) - 1) * 6))), (0, (2, x0)), (1, (0, x1))]) 22 rfl rfl ?_
  refine PW.pick [2, 1, 0] rfl ?_
  exact h
theorem vX0_removeOperator_31 {l : Launch} {G : pG} {bg : Nat × Nat} {n : Nat} {K : Int → Nat × Nat} {F E : Int → Int → Int} {Q : Option pV → pM → Prop} (x0 x2 x3 : Int) (h : ((x2 ≤ x3 → (K x0).1 = 0 ∧ (K (F x0 0)).1 = 20 ∧ ((0 : Int) ≤ 0 ∧ 0 < ((K (F x0 0)).2 : Int)) ∧ Q (some (0, E (F x0 0) 0)) (n, K, F, E)) ∧ (¬ (x2 ≤ x3) → (K x0).1 = 0 ∧ (-2147483648 ≤ x3 + 6 ∧ x3 + 6 < 2147483648) ∧ (K (F x0 0)).1 = 20 ∧ ((0 : Int) ≤ x3 + 6 ∧ x3 + 6 < ((K (F x0 0)).2 : Int)) ∧ (0 : Int) ≤ F x0 0 ∧ ((0 : Int) ≤ x3 ∧ x3 < ((K (F x0 0)).2 : Int)) ∧ (∀ E1, E1 = pUp E (F x0 0) x3 (E (F x0 0) (x3 + 6)) → (-2147483648 ≤ x3 + 1 ∧ x3 + 1 < 2147483648) ∧ PW l G 0 mX0_removeOperator bg 31 [(0, (2, x0)), (2, (0, x2)), (3, (0, x3 + 1))] [] (n, K, F, E1) Q)))) : PW l G 0 mX0_removeOperator bg 31 [(0, (2, x0)), (2, (0, x2)), (3, (0, x3))] [] (n, K, F, E) Q := by
  refine s_iload_n (q := 32) 23 2 rfl rfl ?_
  refine s_iload_n (q := 33) 24 1 rfl rfl ?_
  refine s_icmp_ge (q := 36) (tgt := 57) 25 rfl rfl (fun hb => ?_) (fun hb => ?_)
  · skip
    have b1 := hb
    replace h := h.1 hb
    refine s_aload_n (q := 58) 38 0 rfl rfl ?_
    obtain ⟨c2, h⟩ := h
    refine n_getf (q := 61) (jj := 0) 39 0 0 rfl kX0_11 c2 ?_
    refine s_iconst (q := 62) 40 rfl ?_
    obtain ⟨c3, h⟩ := h
    obtain ⟨c4, h⟩ := h
    refine n_iald (q := 63) 41 rfl c3 c4 ?_
    exact s_iret 42 rfl rfl h
  · skip
    have b1 := hb
    replace h := h.2 hb
    refine s_aload_n (q := 37) 26 0 rfl rfl ?_
    obtain ⟨c5, h⟩ := h
    refine n_getf (q := 40) (jj := 0) 27 0 0 rfl kX0_11 c5 ?_
    refine s_iload_n (q := 41) 28 2 rfl rfl ?_
    refine s_aload_n (q := 42) 29 0 rfl rfl ?_
    refine n_getf (q := 45) (jj := 0) 30 0 0 rfl kX0_11 c5 ?_
    refine s_iload_n (q := 46) 31 2 rfl rfl ?_
    refine s_bipush (q := 48) 32 rfl ?_
    obtain ⟨c6, h⟩ := h
    refine n_iadd (q := 49) 33 rfl c6 ?_
    obtain ⟨c7, h⟩ := h
    obtain ⟨c8, h⟩ := h
    refine n_iald (q := 50) 34 rfl c7 c8 ?_
    obtain ⟨c9, h⟩ := h
    obtain ⟨c10, h⟩ := h
    refine n_iast (q := 51) 35 rfl c9 c7 c10 ?_
    refine PW.nameE (fun E1 eE1 => ?_)
    replace h := h E1 eE1
    obtain ⟨c11, h⟩ := h
    refine n_iinc (q := 54) (lv' := [(3, (0, x3 + 1)), (0, (2, x0)), (2, (0, x2))]) 36 2 rfl rfl c11 rfl ?_
    refine s_goto (tgt := 31) 37 rfl rfl ?_
    refine PW.pick [1, 2, 0] rfl ?_
    exact h
theorem vX0_setTickets_0 {l : Launch} {G : pG} {bg : Nat × Nat} {n : Nat} {K : Int → Nat × Nat} {F E : Int → Int → Int} {Q : Option pV → pM → Prop} (x0 x1 : Int) (h : PW l G 0 mX0_setTickets bg 2 [(0, (2, x0)), (1, (2, x1)), (2, (0, 0))] [] (n, K, F, E) Q) : PW l G 0 mX0_setTickets bg 0 [(0, (2, x0)), (1, (2, x1))] [] (n, K, F, E) Q := by
  refine s_iconst (q := 1) 0 rfl ?_
  refine s_istore_n (q := 2) (lv' := [(2, (0, 0)), (0, (2, x0)), (1, (2, x1))]) 1 rfl rfl ?_
  refine PW.pick [1, 2, 0] rfl ?_
  exact h
theorem vX0_setTickets_2 {l : Launch} {G : pG} {bg : Nat × Nat} {n : Nat} {K : Int → Nat × Nat} {F E : Int → Int → Int} {Q : Option pV → pM → Prop} (x0 x1 x2 : Int) (h : (K x0).1 = 0 ∧ (K (F x0 0)).1 = 20 ∧ ((0 : Int) ≤ 0 ∧ 0 < ((K (F x0 0)).2 : Int)) ∧ ((E (F x0 0) 0 ≤ x2 → Q none (n, K, F, E)) ∧ (¬ (E (F x0 0) 0 ≤ x2) → (-2147483648 ≤ x2 * 6 ∧ x2 * 6 < 2147483648) ∧ (-2147483648 ≤ 12 + (x2 * 6) ∧ 12 + (x2 * 6) < 2147483648) ∧ (-2147483648 ≤ (12 + (x2 * 6)) + 5 ∧ (12 + (x2 * 6)) + 5 < 2147483648) ∧ (K x1).1 = 20 ∧ ((0 : Int) ≤ x2 ∧ x2 < ((K x1).2 : Int)) ∧ (0 : Int) ≤ F x0 0 ∧ ((0 : Int) ≤ (12 + (x2 * 6)) + 5 ∧ (12 + (x2 * 6)) + 5 < ((K (F x0 0)).2 : Int)) ∧ (∀ E1, E1 = pUp E (F x0 0) ((12 + (x2 * 6)) + 5) (E x1 x2) → (-2147483648 ≤ x2 + 1 ∧ x2 + 1 < 2147483648) ∧ PW l G 0 mX0_setTickets bg 2 [(0, (2, x0)), (1, (2, x1)), (2, (0, x2 + 1))] [] (n, K, F, E1) Q)))) : PW l G 0 mX0_setTickets bg 2 [(0, (2, x0)), (1, (2, x1)), (2, (0, x2))] [] (n, K, F, E) Q := by
  refine s_iload_n (q := 3) 2 2 rfl rfl ?_
  refine s_aload_n (q := 4) 3 0 rfl rfl ?_
  obtain ⟨c1, h⟩ := h
  refine n_getf (q := 7) (jj := 0) 4 0 0 rfl kX0_11 c1 ?_
  refine s_iconst (q := 8) 5 rfl ?_
  obtain ⟨c2, h⟩ := h
  obtain ⟨c3, h⟩ := h
  refine n_iald (q := 9) 6 rfl c2 c3 ?_
  refine s_icmp_ge (q := 12) (tgt := 35) 7 rfl rfl (fun hb => ?_) (fun hb => ?_)
  · skip
    have b4 := hb
    replace h := h.1 hb
    exact s_vret 23 rfl rfl h
  · skip
    have b4 := hb
    replace h := h.2 hb
    refine s_aload_n (q := 13) 8 0 rfl rfl ?_
    refine n_getf (q := 16) (jj := 0) 9 0 0 rfl kX0_11 c1 ?_
    refine s_bipush (q := 18) 10 rfl ?_
    refine s_iload_n (q := 19) 11 2 rfl rfl ?_
    refine s_bipush (q := 21) 12 rfl ?_
    obtain ⟨c5, h⟩ := h
    refine n_imul (q := 22) 13 rfl c5 ?_
    obtain ⟨c6, h⟩ := h
    refine n_iadd (q := 23) 14 rfl c6 ?_
    refine s_iconst (q := 24) 15 rfl ?_
    obtain ⟨c7, h⟩ := h
    refine n_iadd (q := 25) 16 rfl c7 ?_
    refine s_aload_n (q := 26) 17 1 rfl rfl ?_
    refine s_iload_n (q := 27) 18 2 rfl rfl ?_
    obtain ⟨c8, h⟩ := h
    obtain ⟨c9, h⟩ := h
    refine n_iald (q := 28) 19 rfl c8 c9 ?_
    obtain ⟨c10, h⟩ := h
    obtain ⟨c11, h⟩ := h
    refine n_iast (q := 29) 20 rfl c10 c2 c11 ?_
    refine PW.nameE (fun E1 eE1 => ?_)
    replace h := h E1 eE1
    obtain ⟨c12, h⟩ := h
    refine n_iinc (q := 32) (lv' := [(2, (0, x2 + 1)), (0, (2, x0)), (1, (2, x1))]) 21 2 rfl rfl c12 rfl ?_
    refine s_goto (tgt := 2) 22 rfl rfl ?_
    refine PW.pick [1, 2, 0] rfl ?_
    exact h
theorem vX0_setWindow_0 {l : Launch} {G : pG} {bg : Nat × Nat} {n : Nat} {K : Int → Nat × Nat} {F E : Int → Int → Int} {Q : Option pV → pM → Prop} (x0 x1 x2 : Int) (h : (K x0).1 = 0 ∧ (-2147483648 ≤ 3 + x1 ∧ 3 + x1 < 2147483648) ∧ (0 : Int) ≤ F x0 0 ∧ (K (F x0 0)).1 = 20 ∧ ((0 : Int) ≤ 3 + x1 ∧ 3 + x1 < ((K (F x0 0)).2 : Int)) ∧ (∀ E1, E1 = pUp E (F x0 0) (3 + x1) x2 → (-2147483648 ≤ 9 + x1 ∧ 9 + x1 < 2147483648) ∧ ((0 : Int) ≤ 9 + x1 ∧ 9 + x1 < ((K (F x0 0)).2 : Int)) ∧ (-2147483648 ≤ (E1 (F x0 0) (9 + x1)) - x2 ∧ (E1 (F x0 0) (9 + x1)) - x2 < 2147483648) ∧ PC l G 0 mX0_dropOldest (0, 0) [(2, x0), (0, x1), (0, max 0 ((E1 (F x0 0) (9 + x1)) - x2))] (n, K, F, E1) (fun r μ => PW l G 1 mX0_setWindow bg 31 [(3, (0, max 0 ((E1 (F x0 0) (9 + x1)) - x2)))] (r.toList ++ []) μ Q))) : PW l G 1 mX0_setWindow bg 0 [(0, (2, x0)), (1, (0, x1)), (2, (0, x2))] [] (n, K, F, E) Q := by
  refine s_aload_n (q := 1) 0 0 rfl rfl ?_
  obtain ⟨c1, h⟩ := h
  refine n_getf (q := 4) (jj := 0) 1 0 0 rfl kX0_11 c1 ?_
  refine s_iconst (q := 5) 2 rfl ?_
  refine s_iload_n (q := 6) 3 1 rfl rfl ?_
  obtain ⟨c2, h⟩ := h
  refine n_iadd (q := 7) 4 rfl c2 ?_
  refine s_iload_n (q := 8) 5 2 rfl rfl ?_
  obtain ⟨c3, h⟩ := h
  obtain ⟨c4, h⟩ := h
  obtain ⟨c5, h⟩ := h
  refine n_iast (q := 9) 6 rfl c3 c4 c5 ?_
  refine PW.nameE (fun E1 eE1 => ?_)
  replace h := h E1 eE1
  refine s_iconst (q := 10) 7 rfl ?_
  refine s_aload_n (q := 11) 8 0 rfl rfl ?_
  refine n_getf (q := 14) (jj := 0) 9 0 0 rfl kX0_11 c1 ?_
  refine s_bipush (q := 16) 10 rfl ?_
  refine s_iload_n (q := 17) 11 1 rfl rfl ?_
  obtain ⟨c6, h⟩ := h
  refine n_iadd (q := 18) 12 rfl c6 ?_
  obtain ⟨c7, h⟩ := h
  refine n_iald (q := 19) 13 rfl c4 c7 ?_
  refine s_iload_n (q := 20) 14 2 rfl rfl ?_
  obtain ⟨c8, h⟩ := h
  refine n_isub (q := 21) 15 rfl c8 ?_
  refine s_imax (q := 24) 16 rfl kX0_25 ?_
  refine s_istore_n (q := 25) (lv' := [(3, (0, max 0 ((E1 (F x0 0) (9 + x1)) - x2))), (0, (2, x0)), (1, (0, x1)), (2, (0, x2))]) 17 rfl rfl ?_
  refine s_aload_n (q := 26) 18 1 rfl rfl ?_
  refine s_iload_n (q := 27) 19 2 rfl rfl ?_
  refine s_iload_n (q := 28) 20 0 rfl rfl ?_
  refine PW.pick [0] rfl ?_
  exact n_callV (N := mX0_dropOldest) (as := [(0, x1), (0, max 0 ((E1 (F x0 0) (9 + x1)) - x2))]) (st := []) (q := 31) (d' := 0) 21 rfl uX0_dropOldest kX0_31 rfl c1 h
theorem vX0_setWindow_31 {l : Launch} {G : pG} {bg : Nat × Nat} {n : Nat} {K : Int → Nat × Nat} {F E : Int → Int → Int} {Q : Option pV → pM → Prop} (x3 : Int) (h : Q (some (0, x3)) (n, K, F, E)) : PW l G 1 mX0_setWindow bg 31 [(3, (0, x3))] [] (n, K, F, E) Q := by
  refine s_iload_n (q := 32) 22 0 rfl rfl ?_
  exact s_iret 23 rfl rfl h
theorem vX0_addTuple_0 {l : Launch} {G : pG} {bg : Nat × Nat} {n : Nat} {K : Int → Nat × Nat} {F E : Int → Int → Int} {Q : Option pV → pM → Prop} (x0 x1 x2 x3 x4 : Int) (h : (K x0).1 = 0 ∧ (K (F x0 0)).1 = 20 ∧ ((0 : Int) ≤ 1 ∧ 1 < ((K (F x0 0)).2 : Int)) ∧ (-2147483648 ≤ (E (F x0 0) 1) + 1 ∧ (E (F x0 0) 1) + 1 < 2147483648) ∧ (0 : Int) ≤ F x0 0 ∧ (∀ E1, E1 = pUp E (F x0 0) 1 ((E (F x0 0) 1) + 1) → ((0 : Int) ≤ 2 ∧ 2 < ((K (F x0 0)).2 : Int)) ∧ (∀ E2, E2 = pUp E1 (F x0 0) 2 (w32 ((E (F x0 0) 2) + x4)) → (-2147483648 ≤ 9 + x1 ∧ 9 + x1 < 2147483648) ∧ ((0 : Int) ≤ 9 + x1 ∧ 9 + x1 < ((K (F x0 0)).2 : Int)) ∧ (-2147483648 ≤ 3 + x1 ∧ 3 + x1 < 2147483648) ∧ ((0 : Int) ≤ 3 + x1 ∧ 3 + x1 < ((K (F x0 0)).2 : Int)) ∧ ((E2 (F x0 0) (9 + x1) < E2 (F x0 0) (3 + x1) → (-2147483648 ≤ x1 * 9 ∧ x1 * 9 < 2147483648) ∧ (-2147483648 ≤ (x1 * 9) + (E2 (F x0 0) (9 + x1)) ∧ (x1 * 9) + (E2 (F x0 0) (9 + x1)) < 2147483648) ∧ (-2147483648 ≤ ((x1 * 9) + (E2 (F x0 0) (9 + x1))) * 3 ∧ ((x1 * 9) + (E2 (F x0 0) (9 + x1))) * 3 < 2147483648) ∧ (-2147483648 ≤ 36 + (((x1 * 9) + (E2 (F x0 0) (9 + x1))) * 3) ∧ 36 + (((x1 * 9) + (E2 (F x0 0) (9 + x1))) * 3) < 2147483648) ∧ (∀ a3, a3 = 36 + (((x1 * 9) + (E2 (F x0 0) (9 + x1))) * 3) → ((0 : Int) ≤ a3 ∧ a3 < ((K (F x0 0)).2 : Int)) ∧ (∀ E4, E4 = pUp E2 (F x0 0) a3 x2 → (-2147483648 ≤ a3 + 1 ∧ a3 + 1 < 2147483648) ∧ ((0 : Int) ≤ a3 + 1 ∧ a3 + 1 < ((K (F x0 0)).2 : Int)) ∧ (∀ E5, E5 = pUp E4 (F x0 0) (a3 + 1) x3 → (-2147483648 ≤ a3 + 2 ∧ a3 + 2 < 2147483648) ∧ ((0 : Int) ≤ a3 + 2 ∧ a3 + 2 < ((K (F x0 0)).2 : Int)) ∧ (∀ E6, E6 = pUp E5 (F x0 0) (a3 + 2) (E5 (F x0 0) 1) → (-2147483648 ≤ (E6 (F x0 0) (9 + x1)) + 1 ∧ (E6 (F x0 0) (9 + x1)) + 1 < 2147483648) ∧ (∀ E7, E7 = pUp E6 (F x0 0) (9 + x1) ((E6 (F x0 0) (9 + x1)) + 1) → Q none (n, K, F, E7))))))) ∧ (¬ (E2 (F x0 0) (9 + x1) < E2 (F x0 0) (3 + x1)) → PC l G 0 mX0_dropOldest (0, 0) [(2, x0), (0, x1), (0, 1)] (n, K, F, E2) (fun r μ => PW l G 1 mX0_addTuple bg 47 [(0, (2, x0)), (1, (0, x1)), (2, (0, x2)), (3, (0, x3))] (r.toList ++ []) μ Q)))))) : PW l G 1 mX0_addTuple bg 0 [(0, (2, x0)), (1, (0, x1)), (2, (0, x2)), (3, (0, x3)), (4, (0, x4))] [] (n, K, F, E) Q := by
  refine s_aload_n (q := 1) 0 0 rfl rfl ?_
  obtain ⟨c1, h⟩ := h
  refine n_getf (q := 4) (jj := 0) 1 0 0 rfl kX0_11 c1 ?_
  refine s_iconst (q := 5) 2 rfl ?_
  refine s_dup2 (q := 6) 3 rfl ?_
  obtain ⟨c2, h⟩ := h
  obtain ⟨c3, h⟩ := h
  refine n_iald (q := 7) 4 rfl c2 c3 ?_
  refine s_iconst (q := 8) 5 rfl ?_
  obtain ⟨c4, h⟩ := h
  refine n_iadd (q := 9) 6 rfl c4 ?_
  obtain ⟨c5, h⟩ := h
  refine n_iast (q := 10) 7 rfl c5 c2 c3 ?_
  refine PW.nameE (fun E1 eE1 => ?_)
  replace h := h E1 eE1
  refine s_aload_n (q := 11) 8 0 rfl rfl ?_
  refine n_getf (q := 14) (jj := 0) 9 0 0 rfl kX0_11 c1 ?_
  refine s_iconst (q := 15) 10 rfl ?_
  refine s_dup2 (q := 16) 11 rfl ?_
  obtain ⟨c6, h⟩ := h
  refine n_iald (q := 17) 12 rfl c2 c6 ?_
  refine PW.top (b := E (F x0 0) 2) (by exact (congrFun (congrFun eE1 _) _).trans (pUp_k (by decide))) ?_
  refine s_iload (q := 19) 13 4 rfl rfl ?_
  refine s_iadd (q := 20) 14 rfl ?_
  refine n_iast (q := 21) 15 rfl c5 c2 c6 ?_
  refine PW.nameE (fun E2 eE2 => ?_)
  replace h := h E2 eE2
  refine s_aload_n (q := 22) 16 0 rfl rfl ?_
  refine n_getf (q := 25) (jj := 0) 17 0 0 rfl kX0_11 c1 ?_
  refine s_bipush (q := 27) 18 rfl ?_
  refine s_iload_n (q := 28) 19 1 rfl rfl ?_
  obtain ⟨c7, h⟩ := h
  refine n_iadd (q := 29) 20 rfl c7 ?_
  obtain ⟨c8, h⟩ := h
  refine n_iald (q := 30) 21 rfl c2 c8 ?_
  refine s_aload_n (q := 31) 22 0 rfl rfl ?_
  refine n_getf (q := 34) (jj := 0) 23 0 0 rfl kX0_11 c1 ?_
  refine s_iconst (q := 35) 24 rfl ?_
  refine s_iload_n (q := 36) 25 1 rfl rfl ?_
  obtain ⟨c9, h⟩ := h
  refine n_iadd (q := 37) 26 rfl c9 ?_
  obtain ⟨c10, h⟩ := h
  refine n_iald (q := 38) 27 rfl c2 c10 ?_
  refine s_icmp_lt (q := 41) (tgt := 47) 28 rfl rfl (fun hb => ?_) (fun hb => ?_)
  · skip
    have b11 := hb
    replace h := h.1 hb
    refine s_bipush (q := 49) 33 rfl ?_
    refine s_iload_n (q := 50) 34 1 rfl rfl ?_
    refine s_bipush (q := 52) 35 rfl ?_
    obtain ⟨c12, h⟩ := h
    refine n_imul (q := 53) 36 rfl c12 ?_
    refine s_aload_n (q := 54) 37 0 rfl rfl ?_
    refine n_getf (q := 57) (jj := 0) 38 0 0 rfl kX0_11 c1 ?_
    refine s_bipush (q := 59) 39 rfl ?_
    refine s_iload_n (q := 60) 40 1 rfl rfl ?_
    refine n_iadd (q := 61) 41 rfl c7 ?_
    refine n_iald (q := 62) 42 rfl c2 c8 ?_
    obtain ⟨c13, h⟩ := h
    refine n_iadd (q := 63) 43 rfl c13 ?_
    refine s_iconst (q := 64) 44 rfl ?_
    obtain ⟨c14, h⟩ := h
    refine n_imul (q := 65) 45 rfl c14 ?_
    obtain ⟨c15, h⟩ := h
    refine n_iadd (q := 66) 46 rfl c15 ?_
    refine PW.name (fun a3 ea3 => ?_)
    replace h := h a3 ea3
    refine s_istore (q := 68) (lv' := [(5, (0, a3)), (0, (2, x0)), (1, (0, x1)), (2, (0, x2)), (3, (0, x3)), (4, (0, x4))]) 47 rfl rfl ?_
    refine s_aload_n (q := 69) 48 1 rfl rfl ?_
    refine n_getf (q := 72) (jj := 0) 49 0 0 rfl kX0_11 c1 ?_
    refine s_iload (q := 74) 50 0 rfl rfl ?_
    refine s_iload_n (q := 75) 51 3 rfl rfl ?_
    obtain ⟨c16, h⟩ := h
    refine n_iast (q := 76) 52 rfl c5 c2 c16 ?_
    refine PW.nameE (fun E4 eE4 => ?_)
    replace h := h E4 eE4
    refine s_aload_n (q := 77) 53 1 rfl rfl ?_
    refine n_getf (q := 80) (jj := 0) 54 0 0 rfl kX0_11 c1 ?_
    refine s_iload (q := 82) 55 0 rfl rfl ?_
    refine s_iconst (q := 83) 56 rfl ?_
    obtain ⟨c17, h⟩ := h
    refine n_iadd (q := 84) 57 rfl c17 ?_
    refine s_iload_n (q := 85) 58 4 rfl rfl ?_
    obtain ⟨c18, h⟩ := h
    refine n_iast (q := 86) 59 rfl c5 c2 c18 ?_
    refine PW.nameE (fun E5 eE5 => ?_)
    replace h := h E5 eE5
    refine s_aload_n (q := 87) 60 1 rfl rfl ?_
    refine n_getf (q := 90) (jj := 0) 61 0 0 rfl kX0_11 c1 ?_
    refine s_iload (q := 92) 62 0 rfl rfl ?_
    refine s_iconst (q := 93) 63 rfl ?_
    obtain ⟨c19, h⟩ := h
    refine n_iadd (q := 94) 64 rfl c19 ?_
    refine s_aload_n (q := 95) 65 1 rfl rfl ?_
    refine n_getf (q := 98) (jj := 0) 66 0 0 rfl kX0_11 c1 ?_
    refine s_iconst (q := 99) 67 rfl ?_
    refine n_iald (q := 100) 68 rfl c2 c3 ?_
    obtain ⟨c20, h⟩ := h
    refine n_iast (q := 101) 69 rfl c5 c2 c20 ?_
    refine PW.nameE (fun E6 eE6 => ?_)
    replace h := h E6 eE6
    refine s_aload_n (q := 102) 70 1 rfl rfl ?_
    refine n_getf (q := 105) (jj := 0) 71 0 0 rfl kX0_11 c1 ?_
    refine s_bipush (q := 107) 72 rfl ?_
    refine s_iload_n (q := 108) 73 2 rfl rfl ?_
    refine n_iadd (q := 109) 74 rfl c7 ?_
    refine s_dup2 (q := 110) 75 rfl ?_
    refine n_iald (q := 111) 76 rfl c2 c8 ?_
    refine s_iconst (q := 112) 77 rfl ?_
    obtain ⟨c21, h⟩ := h
    refine n_iadd (q := 113) 78 rfl c21 ?_
    refine n_iast (q := 114) 79 rfl c5 c2 c8 ?_
    refine PW.nameE (fun E7 eE7 => ?_)
    replace h := h E7 eE7
    exact s_vret 80 rfl rfl h
  · skip
    have b11 := hb
    replace h := h.2 hb
    refine s_aload_n (q := 42) 29 0 rfl rfl ?_
    refine s_iload_n (q := 43) 30 1 rfl rfl ?_
    refine s_iconst (q := 44) 31 rfl ?_
    refine PW.pick [0, 1, 2, 3] rfl ?_
    exact n_callV (N := mX0_dropOldest) (as := [(0, x1), (0, 1)]) (st := []) (q := 47) (d' := 0) 32 rfl uX0_dropOldest kX0_31 rfl c1 h
theorem vX0_addTuple_47 {l : Launch} {G : pG} {bg : Nat × Nat} {n : Nat} {K : Int → Nat × Nat} {F E : Int → Int → Int} {Q : Option pV → pM → Prop} (x0 x1 x2 x3 : Int) (h : (-2147483648 ≤ x1 * 9 ∧ x1 * 9 < 2147483648) ∧ (K x0).1 = 0 ∧ (-2147483648 ≤ 9 + x1 ∧ 9 + x1 < 2147483648) ∧ (K (F x0 0)).1 = 20 ∧ ((0 : Int) ≤ 9 + x1 ∧ 9 + x1 < ((K (F x0 0)).2 : Int)) ∧ (-2147483648 ≤ (x1 * 9) + (E (F x0 0) (9 + x1)) ∧ (x1 * 9) + (E (F x0 0) (9 + x1)) < 2147483648) ∧ (-2147483648 ≤ ((x1 * 9) + (E (F x0 0) (9 + x1))) * 3 ∧ ((x1 * 9) + (E (F x0 0) (9 + x1))) * 3 < 2147483648) ∧ (-2147483648 ≤ 36 + (((x1 * 9) + (E (F x0 0) (9 + x1))) * 3) ∧ 36 + (((x1 * 9) + (E (F x0 0) (9 + x1))) * 3) < 2147483648) ∧ (∀ a1, a1 = 36 + (((x1 * 9) + (E (F x0 0) (9 + x1))) * 3) → (0 : Int) ≤ F x0 0 ∧ ((0 : Int) ≤ a1 ∧ a1 < ((K (F x0 0)).2 : Int)) ∧ (∀ E2, E2 = pUp E (F x0 0) a1 x2 → (-2147483648 ≤ a1 + 1 ∧ a1 + 1 < 2147483648) ∧ ((0 : Int) ≤ a1 + 1 ∧ a1 + 1 < ((K (F x0 0)).2 : Int)) ∧ (∀ E3, E3 = pUp E2 (F x0 0) (a1 + 1) x3 → (-2147483648 ≤ a1 + 2 ∧ a1 + 2 < 2147483648) ∧ ((0 : Int) ≤ 1 ∧ 1 < ((K (F x0 0)).2 : Int)) ∧ ((0 : Int) ≤ a1 + 2 ∧ a1 + 2 < ((K (F x0 0)).2 : Int)) ∧ (∀ E4, E4 = pUp E3 (F x0 0) (a1 + 2) (E3 (F x0 0) 1) → (-2147483648 ≤ (E4 (F x0 0) (9 + x1)) + 1 ∧ (E4 (F x0 0) (9 + x1)) + 1 < 2147483648) ∧ (∀ E5, E5 = pUp E4 (F x0 0) (9 + x1) ((E4 (F x0 0) (9 + x1)) + 1) → Q none (n, K, F, E5))))))) : PW l G 1 mX0_addTuple bg 47 [(0, (2, x0)), (1, (0, x1)), (2, (0, x2)), (3, (0, x3))] [] (n, K, F, E) Q := by
  refine s_bipush (q := 49) 33 rfl ?_
  refine s_iload_n (q := 50) 34 1 rfl rfl ?_
  refine s_bipush (q := 52) 35 rfl ?_
  obtain ⟨c1, h⟩ := h
  refine n_imul (q := 53) 36 rfl c1 ?_
  refine s_aload_n (q := 54) 37 0 rfl rfl ?_
  obtain ⟨c2, h⟩ := h
  refine n_getf (q := 57) (jj := 0) 38 0 0 rfl kX0_11 c2 ?_
  refine s_bipush (q := 59) 39 rfl ?_
  refine s_iload_n (q := 60) 40 1 rfl rfl ?_
  obtain ⟨c3, h⟩ := h
  refine n_iadd (q := 61) 41 rfl c3 ?_
  obtain ⟨c4, h⟩ := h
  obtain ⟨c5, h⟩ := h
  refine n_iald (q := 62) 42 rfl c4 c5 ?_
  obtain ⟨c6, h⟩ := h
  refine n_iadd (q := 63) 43 rfl c6 ?_
  refine s_iconst (q := 64) 44 rfl ?_
  obtain ⟨c7, h⟩ := h
  refine n_imul (q := 65) 45 rfl c7 ?_
  obtain ⟨c8, h⟩ := h
  refine n_iadd (q := 66) 46 rfl c8 ?_
  refine PW.name (fun a1 ea1 => ?_)
  replace h := h a1 ea1
  refine s_istore (q := 68) (lv' := [(5, (0, a1)), (0, (2, x0)), (1, (0, x1)), (2, (0, x2)), (3, (0, x3))]) 47 rfl rfl ?_
  refine s_aload_n (q := 69) 48 1 rfl rfl ?_
  refine n_getf (q := 72) (jj := 0) 49 0 0 rfl kX0_11 c2 ?_
  refine s_iload (q := 74) 50 0 rfl rfl ?_
  refine s_iload_n (q := 75) 51 3 rfl rfl ?_
  obtain ⟨c9, h⟩ := h
  obtain ⟨c10, h⟩ := h
  refine n_iast (q := 76) 52 rfl c9 c4 c10 ?_
  refine PW.nameE (fun E2 eE2 => ?_)
  replace h := h E2 eE2
  refine s_aload_n (q := 77) 53 1 rfl rfl ?_
  refine n_getf (q := 80) (jj := 0) 54 0 0 rfl kX0_11 c2 ?_
  refine s_iload (q := 82) 55 0 rfl rfl ?_
  refine s_iconst (q := 83) 56 rfl ?_
  obtain ⟨c11, h⟩ := h
  refine n_iadd (q := 84) 57 rfl c11 ?_
  refine s_iload_n (q := 85) 58 4 rfl rfl ?_
  obtain ⟨c12, h⟩ := h
  refine n_iast (q := 86) 59 rfl c9 c4 c12 ?_
  refine PW.nameE (fun E3 eE3 => ?_)
  replace h := h E3 eE3
  refine s_aload_n (q := 87) 60 1 rfl rfl ?_
  refine n_getf (q := 90) (jj := 0) 61 0 0 rfl kX0_11 c2 ?_
  refine s_iload (q := 92) 62 0 rfl rfl ?_
  refine s_iconst (q := 93) 63 rfl ?_
  obtain ⟨c13, h⟩ := h
  refine n_iadd (q := 94) 64 rfl c13 ?_
  refine s_aload_n (q := 95) 65 1 rfl rfl ?_
  refine n_getf (q := 98) (jj := 0) 66 0 0 rfl kX0_11 c2 ?_
  refine s_iconst (q := 99) 67 rfl ?_
  obtain ⟨c14, h⟩ := h
  refine n_iald (q := 100) 68 rfl c4 c14 ?_
  obtain ⟨c15, h⟩ := h
  refine n_iast (q := 101) 69 rfl c9 c4 c15 ?_
  refine PW.nameE (fun E4 eE4 => ?_)
  replace h := h E4 eE4
  refine s_aload_n (q := 102) 70 1 rfl rfl ?_
  refine n_getf (q := 105) (jj := 0) 71 0 0 rfl kX0_11 c2 ?_
  refine s_bipush (q := 107) 72 rfl ?_
  refine s_iload_n (q := 108) 73 2 rfl rfl ?_
  refine n_iadd (q := 109) 74 rfl c3 ?_
  refine s_dup2 (q := 110) 75 rfl ?_
  refine n_iald (q := 111) 76 rfl c4 c5 ?_
  refine s_iconst (q := 112) 77 rfl ?_
  obtain ⟨c16, h⟩ := h
  refine n_iadd (q := 113) 78 rfl c16 ?_
  refine n_iast (q := 114) 79 rfl c9 c4 c5 ?_
  refine PW.nameE (fun E5 eE5 => ?_)
  replace h := h E5 eE5
  exact s_vret 80 rfl rfl h
theorem vX0_dropOldest_0 {l : Launch} {G : pG} {bg : Nat × Nat} {n : Nat} {K : Int → Nat × Nat} {F E : Int → Int → Int} {Q : Option pV → pM → Prop} (x0 x1 x2 : Int) (h : (K x0).1 = 0 ∧ (-2147483648 ≤ 9 + x1 ∧ 9 + x1 < 2147483648) ∧ (K (F x0 0)).1 = 20 ∧ ((0 : Int) ≤ 9 + x1 ∧ 9 + x1 < ((K (F x0 0)).2 : Int)) ∧ (-2147483648 ≤ (E (F x0 0) (9 + x1)) - x2 ∧ (E (F x0 0) (9 + x1)) - x2 < 2147483648) ∧ (0 : Int) ≤ F x0 0 ∧ (∀ E1, E1 = pUp E (F x0 0) (9 + x1) ((E (F x0 0) (9 + x1)) - x2) → (-2147483648 ≤ x1 * 9 ∧ x1 * 9 < 2147483648) ∧ (-2147483648 ≤ (x1 * 9) * 3 ∧ (x1 * 9) * 3 < 2147483648) ∧ (-2147483648 ≤ 36 + ((x1 * 9) * 3) ∧ 36 + ((x1 * 9) * 3) < 2147483648) ∧ (-2147483648 ≤ ((E (F x0 0) (9 + x1)) - x2) * 3 ∧ ((E (F x0 0) (9 + x1)) - x2) * 3 < 2147483648) ∧ (-2147483648 ≤ (36 + ((x1 * 9) * 3)) + (((E (F x0 0) (9 + x1)) - x2) * 3) ∧ (36 + ((x1 * 9) * 3)) + (((E (F x0 0) (9 + x1)) - x2) * 3) < 2147483648) ∧ (∀ a2, a2 = (36 + ((x1 * 9) * 3)) + (((E (F x0 0) (9 + x1)) - x2) * 3) → PW l G 0 mX0_dropOldest bg 41 [(0, (2, x0)), (2, (0, x2)), (4, (0, a2)), (5, (0, 36 + ((x1 * 9) * 3)))] [] (n, K, F, E1) Q))) : PW l G 0 mX0_dropOldest bg 0 [(0, (2, x0)), (1, (0, x1)), (2, (0, x2))] [] (n, K, F, E) Q := by
  refine s_aload_n (q := 1) 0 0 rfl rfl ?_
  obtain ⟨c1, h⟩ := h
  refine n_getf (q := 4) (jj := 0) 1 0 0 rfl kX0_11 c1 ?_
  refine s_bipush (q := 6) 2 rfl ?_
  refine s_iload_n (q := 7) 3 1 rfl rfl ?_
  obtain ⟨c2, h⟩ := h
  refine n_iadd (q := 8) 4 rfl c2 ?_
  refine s_dup2 (q := 9) 5 rfl ?_
  obtain ⟨c3, h⟩ := h
  obtain ⟨c4, h⟩ := h
  refine n_iald (q := 10) 6 rfl c3 c4 ?_
  refine s_iload_n (q := 11) 7 2 rfl rfl ?_
  obtain ⟨c5, h⟩ := h
  refine n_isub (q := 12) 8 rfl c5 ?_
  obtain ⟨c6, h⟩ := h
  refine n_iast (q := 13) 9 rfl c6 c3 c4 ?_
  refine PW.nameE (fun E1 eE1 => ?_)
  replace h := h E1 eE1
  refine s_bipush (q := 15) 10 rfl ?_
  refine s_iload_n (q := 16) 11 1 rfl rfl ?_
  refine s_bipush (q := 18) 12 rfl ?_
  obtain ⟨c7, h⟩ := h
  refine n_imul (q := 19) 13 rfl c7 ?_
  refine s_iconst (q := 20) 14 rfl ?_
  obtain ⟨c8, h⟩ := h
  refine n_imul (q := 21) 15 rfl c8 ?_
  obtain ⟨c9, h⟩ := h
  refine n_iadd (q := 22) 16 rfl c9 ?_
  refine s_istore_n (q := 23) (lv' := [(3, (0, 36 + ((x1 * 9) * 3))), (0, (2, x0)), (1, (0, x1)), (2, (0, x2))]) 17 rfl rfl ?_
  refine s_iload_n (q := 24) 18 0 rfl rfl ?_
  refine s_aload_n (q := 25) 19 1 rfl rfl ?_
  refine n_getf (q := 28) (jj := 0) 20 0 0 rfl kX0_11 c1 ?_
  refine s_bipush (q := 30) 21 rfl ?_
  refine s_iload_n (q := 31) 22 2 rfl rfl ?_
  refine n_iadd (q := 32) 23 rfl c2 ?_
  refine n_iald (q := 33) 24 rfl c3 c4 ?_
  refine PW.top (b := (E (F x0 0) (9 + x1)) - x2) (by exact (congrFun (congrFun eE1 _) _).trans pUp_s) ?_
  refine s_iconst (q := 34) 25 rfl ?_
  obtain ⟨c10, h⟩ := h
  refine n_imul (q := 35) 26 rfl c10 ?_
  obtain ⟨c11, h⟩ := h
  refine n_iadd (q := 36) 27 rfl c11 ?_
  refine PW.name (fun a2 ea2 => ?_)
  replace h := h a2 ea2
  refine s_istore (q := 38) (lv' := [(4, (0, a2)), (3, (0, 36 + ((x1 * 9) * 3))), (0, (2, x0)), (1, (0, x1)), (2, (0, x2))]) 28 rfl rfl ?_
  refine s_iload_n (q := 39) 29 1 rfl rfl ?_
  refine s_istore (q := 41) (lv' := [(5, (0, 36 + ((x1 * 9) * 3))), (4, (0, a2)), (3, (0, 36 + ((x1 * 9) * 3))), (0, (2, x0)), (1, (0, x1)), (2, (0, x2))]) 30 rfl rfl ?_
  refine PW.pick [3, 5, 1, 0] rfl ?_
  exact h
theorem vX0_dropOldest_41 {l : Launch} {G : pG} {bg : Nat × Nat} {n : Nat} {K : Int → Nat × Nat} {F E : Int → Int → Int} {Q : Option pV → pM → Prop} (x0 x2 x4 x5 : Int) (h : ((x4 ≤ x5 → Q none (n, K, F, E)) ∧ (¬ (x4 ≤ x5) → (K x0).1 = 0 ∧ (-2147483648 ≤ x2 * 3 ∧ x2 * 3 < 2147483648) ∧ (-2147483648 ≤ x5 + (x2 * 3) ∧ x5 + (x2 * 3) < 2147483648) ∧ (K (F x0 0)).1 = 20 ∧ ((0 : Int) ≤ x5 + (x2 * 3) ∧ x5 + (x2 * 3) < ((K (F x0 0)).2 : Int)) ∧ (0 : Int) ≤ F x0 0 ∧ ((0 : Int) ≤ x5 ∧ x5 < ((K (F x0 0)).2 : Int)) ∧ (∀ E1, E1 = pUp E (F x0 0) x5 (E (F x0 0) (x5 + (x2 * 3))) → (-2147483648 ≤ x5 + 1 ∧ x5 + 1 < 2147483648) ∧ PW l G 0 mX0_dropOldest bg 41 [(0, (2, x0)), (2, (0, x2)), (4, (0, x4)), (5, (0, x5 + 1))] [] (n, K, F, E1) Q)))) : PW l G 0 mX0_dropOldest bg 41 [(0, (2, x0)), (2, (0, x2)), (4, (0, x4)), (5, (0, x5))] [] (n, K, F, E) Q := by
  refine s_iload (q := 43) 31 3 rfl rfl ?_
  refine s_iload (q := 45) 32 2 rfl rfl ?_
  refine s_icmp_ge (q := 48) (tgt := 72) 33 rfl rfl (fun hb => ?_) (fun hb => ?_)
  · skip
    have b1 := hb
    replace h := h.1 hb
    exact s_vret 48 rfl rfl h
  · skip
    have b1 := hb
    replace h := h.2 hb
    refine s_aload_n (q := 49) 34 0 rfl rfl ?_
    obtain ⟨c2, h⟩ := h
    refine n_getf (q := 52) (jj := 0) 35 0 0 rfl kX0_11 c2 ?_
    refine s_iload (q := 54) 36 3 rfl rfl ?_
    refine s_aload_n (q := 55) 37 0 rfl rfl ?_
    refine n_getf (q := 58) (jj := 0) 38 0 0 rfl kX0_11 c2 ?_
    refine s_iload (q := 60) 39 3 rfl rfl ?_
    refine s_iload_n (q := 61) 40 1 rfl rfl ?_
    refine s_iconst (q := 62) 41 rfl ?_
    obtain ⟨c3, h⟩ := h
    refine n_imul (q := 63) 42 rfl c3 ?_
    obtain ⟨c4, h⟩ := h
    refine n_iadd (q := 64) 43 rfl c4 ?_
    obtain ⟨c5, h⟩ := h
    obtain ⟨c6, h⟩ := h
    refine n_iald (q := 65) 44 rfl c5 c6 ?_
    obtain ⟨c7, h⟩ := h
    obtain ⟨c8, h⟩ := h
    refine n_iast (q := 66) 45 rfl c7 c5 c8 ?_
    refine PW.nameE (fun E1 eE1 => ?_)
    replace h := h E1 eE1
    obtain ⟨c9, h⟩ := h
    refine n_iinc (q := 69) (lv' := [(5, (0, x5 + 1)), (0, (2, x0)), (2, (0, x2)), (4, (0, x4))]) 46 3 rfl rfl c9 rfl ?_
    refine s_goto (tgt := 41) 47 rfl rfl ?_
    refine PW.pick [1, 2, 3, 0] rfl ?_
    exact h
theorem vX1_copy_0 {l : Launch} {G : pG} {bg : Nat × Nat} {n : Nat} {K : Int → Nat × Nat} {F E : Int → Int → Int} {Q : Option pV → pM → Prop} (x0 x1 : Int) (h : (K x0).1 = 1 ∧ (K x1).1 = 1 ∧ (K (F x0 0)).1 = 0 ∧ (K (F x1 0)).1 = 0 ∧ (0 : Int) ≤ F (F x1 0) 0 ∧ (K (F (F x1 0) 0)).1 = 20 ∧ (0 : Int) ≤ F (F x0 0) 0 ∧ (K (F (F x0 0) 0)).1 = 20 ∧ ((0 : Int) ≤ 0 ∧ (0 : Int) ≤ 0 ∧ (0 : Int) ≤ 117 ∧ 0 + 117 ≤ ((K (F (F x1 0) 0)).2 : Int) ∧ 0 + 117 ≤ ((K (F (F x0 0) 0)).2 : Int)) ∧ (∀ E1, E1 = pRow E (F (F x0 0) 0) (pCpy E (F (F x1 0) 0) 0 (F (F x0 0) 0) 0 117) → (0 : Int) ≤ F x1 1 ∧ (K (F x1 1)).1 = 20 ∧ (0 : Int) ≤ F x0 1 ∧ (K (F x0 1)).1 = 20 ∧ ((0 : Int) ≤ 0 ∧ (0 : Int) ≤ 0 ∧ (0 : Int) ≤ 3 ∧ 0 + 3 ≤ ((K (F x1 1)).2 : Int) ∧ 0 + 3 ≤ ((K (F x0 1)).2 : Int)) ∧ (∀ E2, E2 = pRow E1 (F x0 1) (pCpy E1 (F x1 1) 0 (F x0 1) 0 3) → (0 : Int) ≤ F x1 2 ∧ (K (F x1 2)).1 = 20 ∧ (0 : Int) ≤ F x0 2 ∧ (K (F x0 2)).1 = 20 ∧ ((0 : Int) ≤ 0 ∧ (0 : Int) ≤ 0 ∧ (0 : Int) ≤ 6 ∧ 0 + 6 ≤ ((K (F x1 2)).2 : Int) ∧ 0 + 6 ≤ ((K (F x0 2)).2 : Int)) ∧ (∀ E3, E3 = pRow E2 (F x0 2) (pCpy E2 (F x1 2) 0 (F x0 2) 0 6) → (0 : Int) ≤ F x1 3 ∧ (K (F x1 3)).1 = 20 ∧ (0 : Int) ≤ F x0 3 ∧ (K (F x0 3)).1 = 20 ∧ ((0 : Int) ≤ 0 ∧ (0 : Int) ≤ 0 ∧ (0 : Int) ≤ 6 ∧ 0 + 6 ≤ ((K (F x1 3)).2 : Int) ∧ 0 + 6 ≤ ((K (F x0 3)).2 : Int)) ∧ (∀ E4, E4 = pRow E3 (F x0 3) (pCpy E3 (F x1 3) 0 (F x0 3) 0 6) → (∀ F5, F5 = pUp F x0 4 (F x1 4) → PW l G 1 mX1_copy bg 65 [(0, (2, x0)), (1, (2, x1)), (2, (0, 0))] [] (n, K, F5, E4) Q)))))) : PW l G 1 mX1_copy bg 0 [(0, (2, x0)), (1, (2, x1))] [] (n, K, F, E) Q := by
  refine s_aload_n (q := 1) 0 0 rfl rfl ?_
  obtain ⟨c1, h⟩ := h
  refine n_getf (q := 4) (jj := 0) 1 1 0 rfl kX1_12 c1 ?_
  refine s_aload_n (q := 5) 2 1 rfl rfl ?_
  obtain ⟨c2, h⟩ := h
  refine n_getf (q := 8) (jj := 0) 3 1 0 rfl kX1_12 c2 ?_
  obtain ⟨c3, h⟩ := h
  refine n_callV (N := mX0_copy) (as := [(2, F x1 0)]) (st := []) (q := 11) (d' := 0) 4 rfl uX0_copy kX1_44 rfl c3 ?_
  show PW l G 0 mX0_copy (0, 0) 0 [(0, (2, F x0 0)), (1, (2, F x1 0))] [] (n, K, F, E) _
  refine s_aload_n (q := 1) 0 1 rfl rfl ?_
  obtain ⟨c4, h⟩ := h
  refine n_getf (q := 4) (jj := 0) 1 0 0 rfl kX0_11 c4 ?_
  refine s_iconst (q := 5) 2 rfl ?_
  refine s_aload_n (q := 6) 3 0 rfl rfl ?_
  refine n_getf (q := 9) (jj := 0) 4 0 0 rfl kX0_11 c3 ?_
  refine s_iconst (q := 10) 5 rfl ?_
  refine s_bipush (q := 12) 6 rfl ?_
  obtain ⟨c5, h⟩ := h
  obtain ⟨c6, h⟩ := h
  obtain ⟨c7, h⟩ := h
  obtain ⟨c8, h⟩ := h
  obtain ⟨c9, h⟩ := h
  refine n_copy (q := 15) 7 rfl kX0_15 c5 c6 c7 c8 c9 ?_
  refine PW.nameE (fun E1 eE1 => ?_)
  replace h := h E1 eE1
  refine s_vret 8 rfl rfl ?_
  show PW l G 1 mX1_copy bg 11 [(0, (2, x0)), (1, (2, x1))] [] (n, K, F, E1) Q
  refine s_aload_n (q := 12) 5 1 rfl rfl ?_
  refine n_getf (q := 15) (jj := 1) 6 1 1 rfl kX1_18 c2 ?_
  refine s_iconst (q := 16) 7 rfl ?_
  refine s_aload_n (q := 17) 8 0 rfl rfl ?_
  refine n_getf (q := 20) (jj := 1) 9 1 1 rfl kX1_18 c1 ?_
  refine s_iconst (q := 21) 10 rfl ?_
  refine s_iconst (q := 22) 11 rfl ?_
  obtain ⟨c10, h⟩ := h
  obtain ⟨c11, h⟩ := h
  obtain ⟨c12, h⟩ := h
  obtain ⟨c13, h⟩ := h
  obtain ⟨c14, h⟩ := h
  refine n_copy (q := 25) 12 rfl kX1_48 c10 c11 c12 c13 c14 ?_
  refine PW.nameE (fun E2 eE2 => ?_)
  replace h := h E2 eE2
  refine s_aload_n (q := 26) 13 1 rfl rfl ?_
  refine n_getf (q := 29) (jj := 2) 14 1 2 rfl kX1_22 c2 ?_
  refine s_iconst (q := 30) 15 rfl ?_
  refine s_aload_n (q := 31) 16 0 rfl rfl ?_
  refine n_getf (q := 34) (jj := 2) 17 1 2 rfl kX1_22 c1 ?_
  refine s_iconst (q := 35) 18 rfl ?_
  refine s_bipush (q := 37) 19 rfl ?_
  obtain ⟨c15, h⟩ := h
  obtain ⟨c16, h⟩ := h
  obtain ⟨c17, h⟩ := h
  obtain ⟨c18, h⟩ := h
  obtain ⟨c19, h⟩ := h
  refine n_copy (q := 40) 20 rfl kX1_48 c15 c16 c17 c18 c19 ?_
  refine PW.nameE (fun E3 eE3 => ?_)
  replace h := h E3 eE3
  refine s_aload_n (q := 41) 21 1 rfl rfl ?_
  refine n_getf (q := 44) (jj := 3) 22 1 3 rfl kX1_25 c2 ?_
  refine s_iconst (q := 45) 23 rfl ?_
  refine s_aload_n (q := 46) 24 0 rfl rfl ?_
  refine n_getf (q := 49) (jj := 3) 25 1 3 rfl kX1_25 c1 ?_
  refine s_iconst (q := 50) 26 rfl ?_
  refine s_bipush (q := 52) 27 rfl ?_
  obtain ⟨c20, h⟩ := h
  obtain ⟨c21, h⟩ := h
  obtain ⟨c22, h⟩ := h
  obtain ⟨c23, h⟩ := h
  obtain ⟨c24, h⟩ := h
  refine n_copy (q := 55) 28 rfl kX1_48 c20 c21 c22 c23 c24 ?_
  refine PW.nameE (fun E4 eE4 => ?_)
  replace h := h E4 eE4
  refine s_aload_n (q := 56) 29 0 rfl rfl ?_
  refine s_aload_n (q := 57) 30 1 rfl rfl ?_
  refine n_getf (q := 60) (jj := 4) 31 1 4 rfl kX1_28 c2 ?_
  refine n_putf (q := 63) (jj := 4) 32 1 4 rfl kX1_28 c1 (Or.inl rfl) ?_
  refine PW.nameF (fun F5 eF5 => ?_)
  replace h := h F5 eF5
  refine s_iconst (q := 64) 33 rfl ?_
  refine s_istore_n (q := 65) (lv' := [(2, (0, 0)), (0, (2, x0)), (1, (2, x1))]) 34 rfl rfl ?_
  refine PW.pick [1, 2, 0] rfl ?_
  exact h
theorem vX1_copy_65 {l : Launch} {G : pG} {bg : Nat × Nat} {n : Nat} {K : Int → Nat × Nat} {F E : Int → Int → Int} {Q : Option pV → pM → Prop} (x0 x1 x2 : Int) (h : ((6 ≤ x2 → (K x1).1 = 1 ∧ (K x0).1 = 1 ∧ (∀ F1, F1 = pUp F x0 6 (F x1 6) → (∀ F2, F2 = pUp F1 x0 7 (F1 x1 7) → Q none (n, K, F2, E)))) ∧ (¬ (6 ≤ x2) → (K x0).1 = 1 ∧ (K x1).1 = 1 ∧ (0 : Int) ≤ F x1 5 ∧ (K (F x1 5)).1 = 25 ∧ ((0 : Int) ≤ x2 ∧ x2 < ((K (F x1 5)).2 : Int)) ∧ (0 : Int) ≤ F x0 5 ∧ (K (F x0 5)).1 = 25 ∧ ((0 : Int) ≤ x2 ∧ x2 < ((K (F x0 5)).2 : Int)) ∧ (E (F x1 5) x2 = -1 ∨ (K (E (F x1 5) x2)).1 = 9) ∧ (∀ E3, E3 = pUp E (F x0 5) x2 (E (F x1 5) x2) → (-2147483648 ≤ x2 + 1 ∧ x2 + 1 < 2147483648) ∧ PW l G 1 mX1_copy bg 65 [(0, (2, x0)), (1, (2, x1)), (2, (0, x2 + 1))] [] (n, K, F, E3) Q)))) : PW l G 1 mX1_copy bg 65 [(0, (2, x0)), (1, (2, x1)), (2, (0, x2))] [] (n, K, F, E) Q := by
  refine s_iload_n (q := 66) 35 2 rfl rfl ?_
  refine s_bipush (q := 68) 36 rfl ?_
  refine s_icmp_ge (q := 71) (tgt := 89) 37 rfl rfl (fun hb => ?_) (fun hb => ?_)
  · skip
    have b1 := hb
    replace h := h.1 hb
    refine s_aload_n (q := 90) 48 0 rfl rfl ?_
    refine s_aload_n (q := 91) 49 1 rfl rfl ?_
    obtain ⟨c2, h⟩ := h
    refine n_getf (q := 94) (jj := 6) 50 1 6 rfl kX1_38 c2 ?_
    obtain ⟨c3, h⟩ := h
    refine n_putf (q := 97) (jj := 6) 51 1 6 rfl kX1_38 c3 (Or.inl rfl) ?_
    refine PW.nameF (fun F1 eF1 => ?_)
    replace h := h F1 eF1
    refine s_aload_n (q := 98) 52 0 rfl rfl ?_
    refine s_aload_n (q := 99) 53 1 rfl rfl ?_
    refine n_getf (q := 102) (jj := 7) 54 1 7 rfl kX1_41 c2 ?_
    refine n_putf (q := 105) (jj := 7) 55 1 7 rfl kX1_41 c3 (Or.inl rfl) ?_
    refine PW.nameF (fun F2 eF2 => ?_)
    replace h := h F2 eF2
    exact s_vret 56 rfl rfl h
  · skip
    have b1 := hb
    replace h := h.2 hb
    refine s_aload_n (q := 72) 38 0 rfl rfl ?_
    obtain ⟨c4, h⟩ := h
    refine n_getf (q := 75) (jj := 5) 39 1 5 rfl kX1_34 c4 ?_
    refine s_iload_n (q := 76) 40 2 rfl rfl ?_
    refine s_aload_n (q := 77) 41 1 rfl rfl ?_
    obtain ⟨c5, h⟩ := h
    refine n_getf (q := 80) (jj := 5) 42 1 5 rfl kX1_34 c5 ?_
    refine s_iload_n (q := 81) 43 2 rfl rfl ?_
    obtain ⟨c6, h⟩ := h
    obtain ⟨c7, h⟩ := h
    obtain ⟨c8, h⟩ := h
    refine n_aald (q := 82) 44 5 rfl c6 c7 c8 ?_
    obtain ⟨c9, h⟩ := h
    obtain ⟨c10, h⟩ := h
    obtain ⟨c11, h⟩ := h
    obtain ⟨c12, h⟩ := h
    refine n_aast (q := 83) 45 5 rfl c9 c10 c11 c12 ?_
    refine PW.nameE (fun E3 eE3 => ?_)
    replace h := h E3 eE3
    obtain ⟨c13, h⟩ := h
    refine n_iinc (q := 86) (lv' := [(2, (0, x2 + 1)), (0, (2, x0)), (1, (2, x1))]) 46 2 rfl rfl c13 rfl ?_
    refine s_goto (tgt := 65) 47 rfl rfl ?_
    refine PW.pick [1, 2, 0] rfl ?_
    exact h
theorem vX1_lawInForce_0 {l : Launch} {G : pG} {bg : Nat × Nat} {n : Nat} {K : Int → Nat × Nat} {F E : Int → Int → Int} {Q : Option pV → pM → Prop} (x0 : Int) (h : (K x0).1 = 1 ∧ ((F x0 7 < 0 → Q (some (2, (-1))) (n, K, F, E)) ∧ (¬ (F x0 7 < 0) → ((F x0 6 ≤ F x0 7 → Q (some (2, (-1))) (n, K, F, E)) ∧ (¬ (F x0 6 ≤ F x0 7) → (0 : Int) ≤ F x0 5 ∧ (K (F x0 5)).1 = 25 ∧ ((0 : Int) ≤ F x0 7 ∧ F x0 7 < ((K (F x0 5)).2 : Int)) ∧ Q (some (2, E (F x0 5) (F x0 7))) (n, K, F, E)))))) : PW l G 0 mX1_lawInForce bg 0 [(0, (2, x0))] [] (n, K, F, E) Q := by
  refine s_aload_n (q := 1) 0 0 rfl rfl ?_
  obtain ⟨c1, h⟩ := h
  refine n_getf (q := 4) (jj := 7) 1 1 7 rfl kX1_41 c1 ?_
  refine s_if_lt (q := 7) (tgt := 30) 2 rfl rfl (fun hb => ?_) (fun hb => ?_)
  · skip
    have b2 := hb
    replace h := h.1 hb
    refine s_null (q := 31) 14 rfl ?_
    exact s_aret 15 rfl rfl (Or.inl ⟨_, rfl⟩) h
  · skip
    have b2 := hb
    replace h := h.2 hb
    refine s_aload_n (q := 8) 3 0 rfl rfl ?_
    refine n_getf (q := 11) (jj := 7) 4 1 7 rfl kX1_41 c1 ?_
    refine s_aload_n (q := 12) 5 0 rfl rfl ?_
    refine n_getf (q := 15) (jj := 6) 6 1 6 rfl kX1_38 c1 ?_
    refine s_icmp_ge (q := 18) (tgt := 30) 7 rfl rfl (fun hb => ?_) (fun hb => ?_)
    · skip
      have b3 := hb
      replace h := h.1 hb
      refine s_null (q := 31) 14 rfl ?_
      exact s_aret 15 rfl rfl (Or.inl ⟨_, rfl⟩) h
    · skip
      have b3 := hb
      replace h := h.2 hb
      refine s_aload_n (q := 19) 8 0 rfl rfl ?_
      refine n_getf (q := 22) (jj := 5) 9 1 5 rfl kX1_34 c1 ?_
      refine s_aload_n (q := 23) 10 0 rfl rfl ?_
      refine n_getf (q := 26) (jj := 7) 11 1 7 rfl kX1_41 c1 ?_
      obtain ⟨c4, h⟩ := h
      obtain ⟨c5, h⟩ := h
      obtain ⟨c6, h⟩ := h
      refine n_aald (q := 27) 12 5 rfl c4 c5 c6 ?_
      refine s_goto (tgt := 31) 13 rfl rfl ?_
      exact s_aret 15 rfl rfl (Or.inl ⟨_, rfl⟩) h
theorem vX1_agrees_0 {l : Launch} {G : pG} {bg : Nat × Nat} {n : Nat} {K : Int → Nat × Nat} {F E : Int → Int → Int} {Q : Option pV → pM → Prop} (x0 x1 x2 : Int) (h : PW l G 2 mX1_agrees bg 2 [(0, (2, x0)), (1, (0, x1)), (2, (0, x2)), (3, (0, 0))] [] (n, K, F, E) Q) : PW l G 2 mX1_agrees bg 0 [(0, (2, x0)), (1, (0, x1)), (2, (0, x2))] [] (n, K, F, E) Q := by
  refine s_iconst (q := 1) 0 rfl ?_
  refine s_istore_n (q := 2) (lv' := [(3, (0, 0)), (0, (2, x0)), (1, (0, x1)), (2, (0, x2))]) 1 rfl rfl ?_
  refine PW.pick [1, 2, 3, 0] rfl ?_
  exact h
theorem vX1_agrees_2 {l : Launch} {G : pG} {bg : Nat × Nat} {n : Nat} {K : Int → Nat × Nat} {F E : Int → Int → Int} {Q : Option pV → pM → Prop} (x0 x1 x2 x3 : Int) (h : (K x0).1 = 1 ∧ ((F x0 4 ≤ x3 → Q (some (0, 1)) (n, K, F, E)) ∧ (¬ (F x0 4 ≤ x3) → (K (F x0 2)).1 = 20 ∧ ((0 : Int) ≤ x3 ∧ x3 < ((K (F x0 2)).2 : Int)) ∧ (K (F x0 0)).1 = 0 ∧ PC l G 1 mX0_fact (0, 0) [(2, F x0 0), (0, x1), (0, x2), (0, E (F x0 2) x3)] (n, K, F, E) (fun r μ => PW l G 2 mX1_agrees bg 25 [(0, (2, x0)), (1, (0, x1)), (2, (0, x2)), (3, (0, x3))] (r.toList ++ []) μ Q)))) : PW l G 2 mX1_agrees bg 2 [(0, (2, x0)), (1, (0, x1)), (2, (0, x2)), (3, (0, x3))] [] (n, K, F, E) Q := by
  refine s_iload_n (q := 3) 2 3 rfl rfl ?_
  refine s_aload_n (q := 4) 3 0 rfl rfl ?_
  obtain ⟨c1, h⟩ := h
  refine n_getf (q := 7) (jj := 4) 4 1 4 rfl kX1_28 c1 ?_
  refine s_icmp_ge (q := 10) (tgt := 42) 5 rfl rfl (fun hb => ?_) (fun hb => ?_)
  · skip
    have b2 := hb
    replace h := h.1 hb
    refine s_iconst (q := 43) 24 rfl ?_
    exact s_zret 25 rfl rfl (by decide) h
  · skip
    have b2 := hb
    replace h := h.2 hb
    refine s_aload_n (q := 11) 6 0 rfl rfl ?_
    refine n_getf (q := 14) (jj := 0) 7 1 0 rfl kX1_12 c1 ?_
    refine s_iload_n (q := 15) 8 1 rfl rfl ?_
    refine s_iload_n (q := 16) 9 2 rfl rfl ?_
    refine s_aload_n (q := 17) 10 0 rfl rfl ?_
    refine n_getf (q := 20) (jj := 2) 11 1 2 rfl kX1_22 c1 ?_
    refine s_iload_n (q := 21) 12 3 rfl rfl ?_
    obtain ⟨c3, h⟩ := h
    obtain ⟨c4, h⟩ := h
    refine n_iald (q := 22) 13 rfl c3 c4 ?_
    obtain ⟨c5, h⟩ := h
    refine PW.pick [0, 1, 2, 3] rfl ?_
    exact n_callV (N := mX0_fact) (as := [(0, x1), (0, x2), (0, E (F x0 2) x3)]) (st := []) (q := 25) (d' := 1) 14 rfl uX0_fact kX1_54 rfl c5 h
theorem vX1_agrees_25 {l : Launch} {G : pG} {bg : Nat × Nat} {n : Nat} {K : Int → Nat × Nat} {F E : Int → Int → Int} {Q : Option pV → pM → Prop} (x0 x1 x2 x3 s0 : Int) (h : (K x0).1 = 1 ∧ (K (F x0 3)).1 = 20 ∧ ((0 : Int) ≤ x3 ∧ x3 < ((K (F x0 3)).2 : Int)) ∧ ((s0 = E (F x0 3) x3 → (-2147483648 ≤ x3 + 1 ∧ x3 + 1 < 2147483648) ∧ PW l G 2 mX1_agrees bg 2 [(0, (2, x0)), (1, (0, x1)), (2, (0, x2)), (3, (0, x3 + 1))] [] (n, K, F, E) Q) ∧ (¬ (s0 = E (F x0 3) x3) → Q (some (0, 0)) (n, K, F, E)))) : PW l G 2 mX1_agrees bg 25 [(0, (2, x0)), (1, (0, x1)), (2, (0, x2)), (3, (0, x3))] [(0, s0)] (n, K, F, E) Q := by
  refine s_aload_n (q := 26) 15 0 rfl rfl ?_
  obtain ⟨c1, h⟩ := h
  refine n_getf (q := 29) (jj := 3) 16 1 3 rfl kX1_25 c1 ?_
  refine s_iload_n (q := 30) 17 3 rfl rfl ?_
  obtain ⟨c2, h⟩ := h
  obtain ⟨c3, h⟩ := h
  refine n_iald (q := 31) 18 rfl c2 c3 ?_
  refine s_icmp_eq (q := 34) (tgt := 36) 19 rfl rfl (fun hb => ?_) (fun hb => ?_)
  · skip
    have b4 := hb
    replace h := h.1 hb
    obtain ⟨c5, h⟩ := h
    refine n_iinc (q := 39) (lv' := [(3, (0, x3 + 1)), (0, (2, x0)), (1, (0, x1)), (2, (0, x2))]) 22 3 rfl rfl c5 rfl ?_
    refine s_goto (tgt := 2) 23 rfl rfl ?_
    refine PW.pick [1, 2, 3, 0] rfl ?_
    exact h
  · skip
    have b4 := hb
    replace h := h.2 hb
    refine s_iconst (q := 35) 20 rfl ?_
    exact s_zret 21 rfl rfl (by decide) h
theorem vX3_push_0 {l : Launch} {G : pG} {bg : Nat × Nat} {n : Nat} {K : Int → Nat × Nat} {F E : Int → Int → Int} {Q : Option pV → pM → Prop} (x0 x1 x2 : Int) (h : (K x0).1 = 3 ∧ ((¬ (F x0 3) = 16 → (-2147483648 ≤ (F x0 2) + (F x0 3) ∧ (F x0 2) + (F x0 3) < 2147483648) ∧ (0 : Int) ≤ F x0 0 ∧ (K (F x0 0)).1 = 20 ∧ ((0 : Int) ≤ ((F x0 2) + (F x0 3)).tmod 16 ∧ ((F x0 2) + (F x0 3)).tmod 16 < ((K (F x0 0)).2 : Int)) ∧ (∀ E1, E1 = pUp E (F x0 0) (((F x0 2) + (F x0 3)).tmod 16) x1 → (K x2).1 = 0 ∧ (-2147483648 ≤ (((F x0 2) + (F x0 3)).tmod 16) * 117 ∧ (((F x0 2) + (F x0 3)).tmod 16) * 117 < 2147483648) ∧ (0 : Int) ≤ F x2 0 ∧ (K (F x2 0)).1 = 20 ∧ (0 : Int) ≤ F x0 1 ∧ (K (F x0 1)).1 = 20 ∧ ((0 : Int) ≤ 0 ∧ (0 : Int) ≤ (((F x0 2) + (F x0 3)).tmod 16) * 117 ∧ (0 : Int) ≤ 117 ∧ 0 + 117 ≤ ((K (F x2 0)).2 : Int) ∧ (((F x0 2) + (F x0 3)).tmod 16) * 117 + 117 ≤ ((K (F x0 1)).2 : Int)) ∧ (∀ E2, E2 = pRow E1 (F x0 1) (pCpy E1 (F x2 0) 0 (F x0 1) ((((F x0 2) + (F x0 3)).tmod 16) * 117) 117) → (-2147483648 ≤ (F x0 3) + 1 ∧ (F x0 3) + 1 < 2147483648) ∧ (∀ F3, F3 = pUp F x0 3 ((F x0 3) + 1) → Q none (n, K, F3, E2))))) ∧ ((F x0 3) = 16 → (-2147483648 ≤ (F x0 2) + 1 ∧ (F x0 2) + 1 < 2147483648) ∧ (∀ F4, F4 = pUp F x0 2 (((F x0 2) + 1).tmod 16) → (-2147483648 ≤ (F x0 3) - 1 ∧ (F x0 3) - 1 < 2147483648) ∧ (∀ F5, F5 = pUp F4 x0 3 ((F x0 3) - 1) → (-2147483648 ≤ (((F x0 2) + 1).tmod 16) + ((F x0 3) - 1) ∧ (((F x0 2) + 1).tmod 16) + ((F x0 3) - 1) < 2147483648) ∧ (∀ a6, a6 = (((F x0 2) + 1).tmod 16) + ((F x0 3) - 1) → (0 : Int) ≤ F x0 0 ∧ (K (F x0 0)).1 = 20 ∧ ((0 : Int) ≤ a6.tmod 16 ∧ a6.tmod 16 < ((K (F x0 0)).2 : Int)) ∧ (∀ E7, E7 = pUp E (F x0 0) (a6.tmod 16) x1 → (K x2).1 = 0 ∧ (-2147483648 ≤ (a6.tmod 16) * 117 ∧ (a6.tmod 16) * 117 < 2147483648) ∧ (0 : Int) ≤ F x2 0 ∧ (K (F x2 0)).1 = 20 ∧ (0 : Int) ≤ F x0 1 ∧ (K (F x0 1)).1 = 20 ∧ ((0 : Int) ≤ 0 ∧ (0 : Int) ≤ (a6.tmod 16) * 117 ∧ (0 : Int) ≤ 117 ∧ 0 + 117 ≤ ((K (F x2 0)).2 : Int) ∧ (a6.tmod 16) * 117 + 117 ≤ ((K (F x0 1)).2 : Int)) ∧ (∀ E8, E8 = pRow E7 (F x0 1) (pCpy E7 (F x2 0) 0 (F x0 1) ((a6.tmod 16) * 117) 117) → (-2147483648 ≤ ((F x0 3) - 1) + 1 ∧ ((F x0 3) - 1) + 1 < 2147483648) ∧ (∀ F9, F9 = pUp F5 x0 3 (((F x0 3) - 1) + 1) → Q none (n, K, F9, E8)))))))))) : PW l G 0 mX3_push bg 0 [(0, (2, x0)), (1, (0, x1)), (2, (2, x2))] [] (n, K, F, E) Q := by
  refine s_aload_n (q := 1) 0 0 rfl rfl ?_
  obtain ⟨c1, h⟩ := h
  refine n_getf (q := 4) (jj := 3) 1 3 3 rfl kX3_24 c1 ?_
  refine s_bipush (q := 6) 2 rfl ?_
  refine s_icmp_ne (q := 9) (tgt := 32) 3 rfl rfl (fun hb => ?_) (fun hb => ?_)
  · skip
    have b2 := hb
    replace h := h.1 hb
    refine s_aload_n (q := 33) 18 0 rfl rfl ?_
    refine n_getf (q := 36) (jj := 2) 19 3 2 rfl kX3_20 c1 ?_
    refine s_aload_n (q := 37) 20 0 rfl rfl ?_
    refine n_getf (q := 40) (jj := 3) 21 3 3 rfl kX3_24 c1 ?_
    obtain ⟨c3, h⟩ := h
    refine n_iadd (q := 41) 22 rfl c3 ?_
    refine s_bipush (q := 43) 23 rfl ?_
    refine s_irem (q := 44) 24 rfl (by decide) ?_
    refine s_istore_n (q := 45) (lv' := [(3, (0, ((F x0 2) + (F x0 3)).tmod 16)), (0, (2, x0)), (1, (0, x1)), (2, (2, x2))]) 25 rfl rfl ?_
    refine s_aload_n (q := 46) 26 1 rfl rfl ?_
    refine n_getf (q := 49) (jj := 0) 27 3 0 rfl kX3_9 c1 ?_
    refine s_iload_n (q := 50) 28 0 rfl rfl ?_
    refine s_iload_n (q := 51) 29 2 rfl rfl ?_
    obtain ⟨c4, h⟩ := h
    obtain ⟨c5, h⟩ := h
    obtain ⟨c6, h⟩ := h
    refine n_iast (q := 52) 30 rfl c4 c5 c6 ?_
    refine PW.nameE (fun E1 eE1 => ?_)
    replace h := h E1 eE1
    refine s_aload_n (q := 53) 31 3 rfl rfl ?_
    obtain ⟨c7, h⟩ := h
    refine n_getf (q := 56) (jj := 0) 32 0 0 rfl kX3_27 c7 ?_
    refine s_iconst (q := 57) 33 rfl ?_
    refine s_aload_n (q := 58) 34 1 rfl rfl ?_
    refine n_getf (q := 61) (jj := 1) 35 3 1 rfl kX3_17 c1 ?_
    refine s_iload_n (q := 62) 36 0 rfl rfl ?_
    refine s_bipush (q := 64) 37 rfl ?_
    obtain ⟨c8, h⟩ := h
    refine n_imul (q := 65) 38 rfl c8 ?_
    refine s_bipush (q := 67) 39 rfl ?_
    obtain ⟨c9, h⟩ := h
    obtain ⟨c10, h⟩ := h
    obtain ⟨c11, h⟩ := h
    obtain ⟨c12, h⟩ := h
    obtain ⟨c13, h⟩ := h
    refine n_copy (q := 70) 40 rfl kX3_28 c9 c10 c11 c12 c13 ?_
    refine PW.nameE (fun E2 eE2 => ?_)
    replace h := h E2 eE2
    refine s_aload_n (q := 71) 41 1 rfl rfl ?_
    refine s_dup (q := 72) 42 rfl ?_
    refine n_getf (q := 75) (jj := 3) 43 3 3 rfl kX3_24 c1 ?_
    refine s_iconst (q := 76) 44 rfl ?_
    obtain ⟨c14, h⟩ := h
    refine n_iadd (q := 77) 45 rfl c14 ?_
    refine n_putf (q := 80) (jj := 3) 46 3 3 rfl kX3_24 c1 (Or.inl rfl) ?_
    refine PW.nameF (fun F3 eF3 => ?_)
    replace h := h F3 eF3
    exact s_vret 47 rfl rfl h
  · have hb := Classical.not_not.mp hb
    have b2 := hb
    replace h := h.2 hb
    refine s_aload_n (q := 10) 4 0 rfl rfl ?_
    refine s_aload_n (q := 11) 5 0 rfl rfl ?_
    refine n_getf (q := 14) (jj := 2) 6 3 2 rfl kX3_20 c1 ?_
    refine s_iconst (q := 15) 7 rfl ?_
    obtain ⟨c15, h⟩ := h
    refine n_iadd (q := 16) 8 rfl c15 ?_
    refine s_bipush (q := 18) 9 rfl ?_
    refine s_irem (q := 19) 10 rfl (by decide) ?_
    refine n_putf (q := 22) (jj := 2) 11 3 2 rfl kX3_20 c1 (Or.inl rfl) ?_
    refine PW.nameF (fun F4 eF4 => ?_)
    replace h := h F4 eF4
    refine s_aload_n (q := 23) 12 0 rfl rfl ?_
    refine s_dup (q := 24) 13 rfl ?_
    refine n_getf (q := 27) (jj := 3) 14 3 3 rfl kX3_24 c1 ?_
    refine PW.top (b := F x0 3) (by exact (congrFun (congrFun eF4 _) _).trans (pUp_k (by decide))) ?_
    refine s_iconst (q := 28) 15 rfl ?_
    obtain ⟨c16, h⟩ := h
    refine n_isub (q := 29) 16 rfl c16 ?_
    refine n_putf (q := 32) (jj := 3) 17 3 3 rfl kX3_24 c1 (Or.inl rfl) ?_
    refine PW.nameF (fun F5 eF5 => ?_)
    replace h := h F5 eF5
    refine s_aload_n (q := 33) 18 0 rfl rfl ?_
    refine n_getf (q := 36) (jj := 2) 19 3 2 rfl kX3_20 c1 ?_
    refine PW.top (b := ((F x0 2) + 1).tmod 16) (by refine (congrFun (congrFun eF5 _) _).trans ((pUp_k (by decide)).trans ?_); exact (congrFun (congrFun eF4 _) _).trans pUp_s) ?_
    refine s_aload_n (q := 37) 20 0 rfl rfl ?_
    refine n_getf (q := 40) (jj := 3) 21 3 3 rfl kX3_24 c1 ?_
    refine PW.top (b := (F x0 3) - 1) (by exact (congrFun (congrFun eF5 _) _).trans pUp_s) ?_
    obtain ⟨c17, h⟩ := h
    refine n_iadd (q := 41) 22 rfl c17 ?_
    refine PW.name (fun a6 ea6 => ?_)
    replace h := h a6 ea6
    refine s_bipush (q := 43) 23 rfl ?_
    refine s_irem (q := 44) 24 rfl (by decide) ?_
    refine s_istore_n (q := 45) (lv' := [(3, (0, a6.tmod 16)), (0, (2, x0)), (1, (0, x1)), (2, (2, x2))]) 25 rfl rfl ?_
    refine s_aload_n (q := 46) 26 1 rfl rfl ?_
    refine n_getf (q := 49) (jj := 0) 27 3 0 rfl kX3_9 c1 ?_
    refine PW.top (b := F x0 0) (by refine (congrFun (congrFun eF5 _) _).trans ((pUp_k (by decide)).trans ?_); exact (congrFun (congrFun eF4 _) _).trans (pUp_k (by decide))) ?_
    refine s_iload_n (q := 50) 28 0 rfl rfl ?_
    refine s_iload_n (q := 51) 29 2 rfl rfl ?_
    obtain ⟨c18, h⟩ := h
    obtain ⟨c19, h⟩ := h
    obtain ⟨c20, h⟩ := h
    refine n_iast (q := 52) 30 rfl c18 c19 c20 ?_
    refine PW.nameE (fun E7 eE7 => ?_)
    replace h := h E7 eE7
    refine s_aload_n (q := 53) 31 3 rfl rfl ?_
    obtain ⟨c21, h⟩ := h
    refine n_getf (q := 56) (jj := 0) 32 0 0 rfl kX3_27 c21 ?_
    refine PW.top (b := F x2 0) (by refine (congrFun (congrFun eF5 _) _).trans ((pUp_K c1 c21 (by decide)).trans ?_); exact (congrFun (congrFun eF4 _) _).trans (pUp_K c1 c21 (by decide))) ?_
    refine s_iconst (q := 57) 33 rfl ?_
    refine s_aload_n (q := 58) 34 1 rfl rfl ?_
    refine n_getf (q := 61) (jj := 1) 35 3 1 rfl kX3_17 c1 ?_
    refine PW.top (b := F x0 1) (by refine (congrFun (congrFun eF5 _) _).trans ((pUp_k (by decide)).trans ?_); exact (congrFun (congrFun eF4 _) _).trans (pUp_k (by decide))) ?_
    refine s_iload_n (q := 62) 36 0 rfl rfl ?_
    refine s_bipush (q := 64) 37 rfl ?_
    obtain ⟨c22, h⟩ := h
    refine n_imul (q := 65) 38 rfl c22 ?_
    refine s_bipush (q := 67) 39 rfl ?_
    obtain ⟨c23, h⟩ := h
    obtain ⟨c24, h⟩ := h
    obtain ⟨c25, h⟩ := h
    obtain ⟨c26, h⟩ := h
    obtain ⟨c27, h⟩ := h
    refine n_copy (q := 70) 40 rfl kX3_28 c23 c24 c25 c26 c27 ?_
    refine PW.nameE (fun E8 eE8 => ?_)
    replace h := h E8 eE8
    refine s_aload_n (q := 71) 41 1 rfl rfl ?_
    refine s_dup (q := 72) 42 rfl ?_
    refine n_getf (q := 75) (jj := 3) 43 3 3 rfl kX3_24 c1 ?_
    refine PW.top (b := (F x0 3) - 1) (by exact (congrFun (congrFun eF5 _) _).trans pUp_s) ?_
    refine s_iconst (q := 76) 44 rfl ?_
    obtain ⟨c28, h⟩ := h
    refine n_iadd (q := 77) 45 rfl c28 ?_
    refine n_putf (q := 80) (jj := 3) 46 3 3 rfl kX3_24 c1 (Or.inl rfl) ?_
    refine PW.nameF (fun F9 eF9 => ?_)
    replace h := h F9 eF9
    exact s_vret 47 rfl rfl h
theorem vX3_pop_0 {l : Launch} {G : pG} {bg : Nat × Nat} {n : Nat} {K : Int → Nat × Nat} {F E : Int → Int → Int} {Q : Option pV → pM → Prop} (x0 x1 : Int) (h : (K x0).1 = 3 ∧ (-2147483648 ≤ (F x0 3) - 1 ∧ (F x0 3) - 1 < 2147483648) ∧ (∀ F1, F1 = pUp F x0 3 ((F x0 3) - 1) → (-2147483648 ≤ (F x0 2) + ((F x0 3) - 1) ∧ (F x0 2) + ((F x0 3) - 1) < 2147483648) ∧ (-2147483648 ≤ (((F x0 2) + ((F x0 3) - 1)).tmod 16) * 117 ∧ (((F x0 2) + ((F x0 3) - 1)).tmod 16) * 117 < 2147483648) ∧ (∀ a2, a2 = (((F x0 2) + ((F x0 3) - 1)).tmod 16) * 117 → (K x1).1 = 0 ∧ (0 : Int) ≤ F x0 1 ∧ (K (F x0 1)).1 = 20 ∧ (0 : Int) ≤ F x1 0 ∧ (K (F x1 0)).1 = 20 ∧ ((0 : Int) ≤ a2 ∧ (0 : Int) ≤ 0 ∧ (0 : Int) ≤ 117 ∧ a2 + 117 ≤ ((K (F x0 1)).2 : Int) ∧ 0 + 117 ≤ ((K (F x1 0)).2 : Int)) ∧ (∀ E3, E3 = pRow E (F x1 0) (pCpy E (F x0 1) a2 (F x1 0) 0 117) → (K (F x0 0)).1 = 20 ∧ ((0 : Int) ≤ ((F x0 2) + ((F x0 3) - 1)).tmod 16 ∧ ((F x0 2) + ((F x0 3) - 1)).tmod 16 < ((K (F x0 0)).2 : Int)) ∧ (∀ a4, a4 = E3 (F x0 0) (((F x0 2) + ((F x0 3) - 1)).tmod 16) → Q (some (0, a4)) (n, K, F1, E3)))))) : PW l G 0 mX3_pop bg 0 [(0, (2, x0)), (1, (2, x1))] [] (n, K, F, E) Q := by
  refine s_aload_n (q := 1) 0 0 rfl rfl ?_
  refine s_dup (q := 2) 1 rfl ?_
  obtain ⟨c1, h⟩ := h
  refine n_getf (q := 5) (jj := 3) 2 3 3 rfl kX3_24 c1 ?_
  refine s_iconst (q := 6) 3 rfl ?_
  obtain ⟨c2, h⟩ := h
  refine n_isub (q := 7) 4 rfl c2 ?_
  refine n_putf (q := 10) (jj := 3) 5 3 3 rfl kX3_24 c1 (Or.inl rfl) ?_
  refine PW.nameF (fun F1 eF1 => ?_)
  replace h := h F1 eF1
  refine s_aload_n (q := 11) 6 0 rfl rfl ?_
  refine n_getf (q := 14) (jj := 2) 7 3 2 rfl kX3_20 c1 ?_
  refine PW.top (b := F x0 2) (by exact (congrFun (congrFun eF1 _) _).trans (pUp_k (by decide))) ?_
  refine s_aload_n (q := 15) 8 0 rfl rfl ?_
  refine n_getf (q := 18) (jj := 3) 9 3 3 rfl kX3_24 c1 ?_
  refine PW.top (b := (F x0 3) - 1) (by exact (congrFun (congrFun eF1 _) _).trans pUp_s) ?_
  obtain ⟨c3, h⟩ := h
  refine n_iadd (q := 19) 10 rfl c3 ?_
  refine s_bipush (q := 21) 11 rfl ?_
  refine s_irem (q := 22) 12 rfl (by decide) ?_
  refine s_istore_n (q := 23) (lv' := [(2, (0, ((F x0 2) + ((F x0 3) - 1)).tmod 16)), (0, (2, x0)), (1, (2, x1))]) 13 rfl rfl ?_
  refine s_aload_n (q := 24) 14 1 rfl rfl ?_
  refine n_getf (q := 27) (jj := 1) 15 3 1 rfl kX3_17 c1 ?_
  refine PW.top (b := F x0 1) (by exact (congrFun (congrFun eF1 _) _).trans (pUp_k (by decide))) ?_
  refine s_iload_n (q := 28) 16 0 rfl rfl ?_
  refine s_bipush (q := 30) 17 rfl ?_
  obtain ⟨c4, h⟩ := h
  refine n_imul (q := 31) 18 rfl c4 ?_
  refine PW.name (fun a2 ea2 => ?_)
  replace h := h a2 ea2
  refine s_aload_n (q := 32) 19 2 rfl rfl ?_
  obtain ⟨c5, h⟩ := h
  refine n_getf (q := 35) (jj := 0) 20 0 0 rfl kX3_27 c5 ?_
  refine PW.top (b := F x1 0) (by exact (congrFun (congrFun eF1 _) _).trans (pUp_K c1 c5 (by decide))) ?_
  refine s_iconst (q := 36) 21 rfl ?_
  refine s_bipush (q := 38) 22 rfl ?_
  obtain ⟨c6, h⟩ := h
  obtain ⟨c7, h⟩ := h
  obtain ⟨c8, h⟩ := h
  obtain ⟨c9, h⟩ := h
  obtain ⟨c10, h⟩ := h
  refine n_copy (q := 41) 23 rfl kX3_28 c6 c7 c8 c9 c10 ?_
  refine PW.nameE (fun E3 eE3 => ?_)
  replace h := h E3 eE3
  refine s_aload_n (q := 42) 24 1 rfl rfl ?_
  refine n_getf (q := 45) (jj := 0) 25 3 0 rfl kX3_9 c1 ?_
  refine PW.top (b := F x0 0) (by exact (congrFun (congrFun eF1 _) _).trans (pUp_k (by decide))) ?_
  refine s_iload_n (q := 46) 26 0 rfl rfl ?_
  obtain ⟨c11, h⟩ := h
  obtain ⟨c12, h⟩ := h
  refine n_iald (q := 47) 27 rfl c11 c12 ?_
  refine PW.name (fun a4 ea4 => ?_)
  replace h := h a4 ea4
  exact s_iret 28 rfl rfl h
theorem vX3_copy_0 {l : Launch} {G : pG} {bg : Nat × Nat} {n : Nat} {K : Int → Nat × Nat} {F E : Int → Int → Int} {Q : Option pV → pM → Prop} (x0 x1 : Int) (h : (K x1).1 = 3 ∧ (K x0).1 = 3 ∧ (K (F x0 0)).1 = 20 ∧ (0 : Int) ≤ F x1 0 ∧ (K (F x1 0)).1 = 20 ∧ (0 : Int) ≤ F x0 0 ∧ ((0 : Int) ≤ 0 ∧ (0 : Int) ≤ 0 ∧ (0 : Int) ≤ ((K (F x0 0)).2 : Int) ∧ 0 + ((K (F x0 0)).2 : Int) ≤ ((K (F x1 0)).2 : Int) ∧ 0 + ((K (F x0 0)).2 : Int) ≤ ((K (F x0 0)).2 : Int)) ∧ (∀ E1, E1 = pRow E (F x0 0) (pCpy E (F x1 0) 0 (F x0 0) 0 ((K (F x0 0)).2 : Int)) → (K (F x0 1)).1 = 20 ∧ (0 : Int) ≤ F x1 1 ∧ (K (F x1 1)).1 = 20 ∧ (0 : Int) ≤ F x0 1 ∧ ((0 : Int) ≤ 0 ∧ (0 : Int) ≤ 0 ∧ (0 : Int) ≤ ((K (F x0 1)).2 : Int) ∧ 0 + ((K (F x0 1)).2 : Int) ≤ ((K (F x1 1)).2 : Int) ∧ 0 + ((K (F x0 1)).2 : Int) ≤ ((K (F x0 1)).2 : Int)) ∧ (∀ E2, E2 = pRow E1 (F x0 1) (pCpy E1 (F x1 1) 0 (F x0 1) 0 ((K (F x0 1)).2 : Int)) → (∀ F3, F3 = pUp F x0 2 (F x1 2) → (∀ F4, F4 = pUp F3 x0 3 (F3 x1 3) → Q none (n, K, F4, E2)))))) : PW l G 0 mX3_copy bg 0 [(0, (2, x0)), (1, (2, x1))] [] (n, K, F, E) Q := by
  refine s_aload_n (q := 1) 0 1 rfl rfl ?_
  obtain ⟨c1, h⟩ := h
  refine n_getf (q := 4) (jj := 0) 1 3 0 rfl kX3_9 c1 ?_
  refine s_iconst (q := 5) 2 rfl ?_
  refine s_aload_n (q := 6) 3 0 rfl rfl ?_
  obtain ⟨c2, h⟩ := h
  refine n_getf (q := 9) (jj := 0) 4 3 0 rfl kX3_9 c2 ?_
  refine s_iconst (q := 10) 5 rfl ?_
  refine s_aload_n (q := 11) 6 0 rfl rfl ?_
  refine n_getf (q := 14) (jj := 0) 7 3 0 rfl kX3_9 c2 ?_
  obtain ⟨c3, h⟩ := h
  refine n_alen (q := 15) 8 0 rfl c3 ?_
  obtain ⟨c4, h⟩ := h
  obtain ⟨c5, h⟩ := h
  obtain ⟨c6, h⟩ := h
  obtain ⟨c7, h⟩ := h
  refine n_copy (q := 18) 9 rfl kX3_28 c4 c5 c6 c3 c7 ?_
  refine PW.nameE (fun E1 eE1 => ?_)
  replace h := h E1 eE1
  refine s_aload_n (q := 19) 10 1 rfl rfl ?_
  refine n_getf (q := 22) (jj := 1) 11 3 1 rfl kX3_17 c1 ?_
  refine s_iconst (q := 23) 12 rfl ?_
  refine s_aload_n (q := 24) 13 0 rfl rfl ?_
  refine n_getf (q := 27) (jj := 1) 14 3 1 rfl kX3_17 c2 ?_
  refine s_iconst (q := 28) 15 rfl ?_
  refine s_aload_n (q := 29) 16 0 rfl rfl ?_
  refine n_getf (q := 32) (jj := 1) 17 3 1 rfl kX3_17 c2 ?_
  obtain ⟨c8, h⟩ := h
  refine n_alen (q := 33) 18 0 rfl c8 ?_
  obtain ⟨c9, h⟩ := h
  obtain ⟨c10, h⟩ := h
  obtain ⟨c11, h⟩ := h
  obtain ⟨c12, h⟩ := h
  refine n_copy (q := 36) 19 rfl kX3_28 c9 c10 c11 c8 c12 ?_
  refine PW.nameE (fun E2 eE2 => ?_)
  replace h := h E2 eE2
  refine s_aload_n (q := 37) 20 0 rfl rfl ?_
  refine s_aload_n (q := 38) 21 1 rfl rfl ?_
  refine n_getf (q := 41) (jj := 2) 22 3 2 rfl kX3_20 c1 ?_
  refine n_putf (q := 44) (jj := 2) 23 3 2 rfl kX3_20 c2 (Or.inl rfl) ?_
  refine PW.nameF (fun F3 eF3 => ?_)
  replace h := h F3 eF3
  refine s_aload_n (q := 45) 24 0 rfl rfl ?_
  refine s_aload_n (q := 46) 25 1 rfl rfl ?_
  refine n_getf (q := 49) (jj := 3) 26 3 3 rfl kX3_24 c1 ?_
  refine n_putf (q := 52) (jj := 3) 27 3 3 rfl kX3_24 c2 (Or.inl rfl) ?_
  refine PW.nameF (fun F4 eF4 => ?_)
  replace h := h F4 eF4
  exact s_vret 28 rfl rfl h
theorem vX4_isSo_0 {l : Launch} {G : pG} {bg : Nat × Nat} {n : Nat} {K : Int → Nat × Nat} {F E : Int → Int → Int} {Q : Option pV → pM → Prop} (x0 x1 x2 x3 : Int) (h : (K x1).1 = 9 ∧ (-2147483648 ≤ x2 * 6 ∧ x2 * 6 < 2147483648) ∧ (-2147483648 ≤ (x2 * 6) + 2 ∧ (x2 * 6) + 2 < 2147483648) ∧ (K (F x1 0)).1 = 20 ∧ ((0 : Int) ≤ (x2 * 6) + 2 ∧ (x2 * 6) + 2 < ((K (F x1 0)).2 : Int)) ∧ ((E (F x1 0) ((x2 * 6) + 2) = (-1) → Q (some (0, 1)) (n, K, F, E)) ∧ (¬ (E (F x1 0) ((x2 * 6) + 2) = (-1)) → (K x0).1 = 4 ∧ PC l G 1 mX4_value (0, 0) [(2, x0), (2, F x1 1), (0, E (F x1 0) ((x2 * 6) + 2)), (2, x3)] (n, K, F, E) (fun r μ => PW l G 2 mX4_isSo bg 25 [] (r.toList ++ []) μ Q)))) : PW l G 2 mX4_isSo bg 0 [(0, (2, x0)), (1, (2, x1)), (2, (0, x2)), (3, (2, x3))] [] (n, K, F, E) Q := by
  refine s_aload_n (q := 1) 0 1 rfl rfl ?_
  refine s_iload_n (q := 2) 1 2 rfl rfl ?_
  refine s_iconst (q := 3) 2 rfl ?_
  obtain ⟨c1, h⟩ := h
  refine n_callV (N := mX9_part) (as := [(0, x2), (0, 2)]) (st := []) (q := 6) (d' := 0) 3 rfl uX9_part kX4_17 rfl c1 ?_
  show PW l G 0 mX9_part (0, 0) 0 [(0, (2, x1)), (1, (0, x2)), (2, (0, 2))] [] (n, K, F, E) _
  refine s_aload_n (q := 1) 0 0 rfl rfl ?_
  refine n_getf (q := 4) (jj := 0) 1 9 0 rfl kX9_11 c1 ?_
  refine s_iload_n (q := 5) 2 1 rfl rfl ?_
  refine s_bipush (q := 7) 3 rfl ?_
  obtain ⟨c2, h⟩ := h
  refine n_imul (q := 8) 4 rfl c2 ?_
  refine s_iload_n (q := 9) 5 2 rfl rfl ?_
  obtain ⟨c3, h⟩ := h
  refine n_iadd (q := 10) 6 rfl c3 ?_
  obtain ⟨c4, h⟩ := h
  obtain ⟨c5, h⟩ := h
  refine n_iald (q := 11) 7 rfl c4 c5 ?_
  refine s_iret 8 rfl rfl ?_
  show PW l G 2 mX4_isSo bg 6 [(0, (2, x0)), (1, (2, x1)), (2, (0, x2)), (3, (2, x3))] [(0, E (F x1 0) ((x2 * 6) + 2))] (n, K, F, E) Q
  refine s_istore (q := 8) (lv' := [(4, (0, E (F x1 0) ((x2 * 6) + 2))), (0, (2, x0)), (1, (2, x1)), (2, (0, x2)), (3, (2, x3))]) 4 rfl rfl ?_
  refine s_iload (q := 10) 5 0 rfl rfl ?_
  refine s_iconst (q := 11) 6 rfl ?_
  refine s_icmp_eq (q := 14) (tgt := 30) 7 rfl rfl (fun hb => ?_) (fun hb => ?_)
  · skip
    have b6 := hb
    replace h := h.1 hb
    refine s_iconst (q := 31) 17 rfl ?_
    refine s_goto (tgt := 35) 18 rfl rfl ?_
    exact s_zret 20 rfl rfl (by decide) h
  · skip
    have b6 := hb
    replace h := h.2 hb
    refine s_aload_n (q := 15) 8 1 rfl rfl ?_
    refine s_aload_n (q := 16) 9 2 rfl rfl ?_
    refine n_getf (q := 19) (jj := 1) 10 9 1 rfl kX4_21 c1 ?_
    refine s_iload (q := 21) 11 0 rfl rfl ?_
    refine s_aload_n (q := 22) 12 4 rfl rfl ?_
    obtain ⟨c7, h⟩ := h
    refine PW.pick [] rfl ?_
    exact n_callV (N := mX4_value) (as := [(2, F x1 1), (0, E (F x1 0) ((x2 * 6) + 2)), (2, x3)]) (st := []) (q := 25) (d' := 1) 13 rfl uX4_value kX4_25 rfl c7 h
theorem vX4_isSo_25 {l : Launch} {G : pG} {bg : Nat × Nat} {n : Nat} {K : Int → Nat × Nat} {F E : Int → Int → Int} {Q : Option pV → pM → Prop} (s0 : Int) (h : ((¬ s0 = 1 → Q (some (0, 0)) (n, K, F, E)) ∧ (s0 = 1 → Q (some (0, 1)) (n, K, F, E)))) : PW l G 2 mX4_isSo bg 25 [] [(1, s0)] (n, K, F, E) Q := by
  refine s_lconst (q := 26) (x := 1) 14 rfl ?_
  refine s_lcmp (q := 27) 15 rfl ?_
  refine s_if_ne (q := 30) (tgt := 34) 16 rfl rfl (fun hb => ?_) (fun hb => ?_)
  · have hb := mt lCmp_eq.mpr hb
    have b1 := hb
    replace h := h.1 hb
    refine s_iconst (q := 35) 19 rfl ?_
    exact s_zret 20 rfl rfl (by decide) h
  · have hb := lCmp_eq.mp (Classical.not_not.mp hb)
    have b1 := hb
    replace h := h.2 hb
    refine s_iconst (q := 31) 17 rfl ?_
    refine s_goto (tgt := 35) 18 rfl rfl ?_
    exact s_zret 20 rfl rfl (by decide) h
theorem vX4_setSums_0 {l : Launch} {G : pG} {bg : Nat × Nat} {n : Nat} {K : Int → Nat × Nat} {F E : Int → Int → Int} {Q : Option pV → pM → Prop} (x0 x1 x2 x3 x4 : Int) (h : PW l G 2 mX4_setSums bg 3 [(0, (2, x0)), (1, (2, x1)), (2, (0, x2)), (3, (2, x3)), (4, (2, x4)), (5, (0, 0))] [] (n, K, F, E) Q) : PW l G 2 mX4_setSums bg 0 [(0, (2, x0)), (1, (2, x1)), (2, (0, x2)), (3, (2, x3)), (4, (2, x4))] [] (n, K, F, E) Q := by
  refine s_iconst (q := 1) 0 rfl ?_
  refine s_istore (q := 3) (lv' := [(5, (0, 0)), (0, (2, x0)), (1, (2, x1)), (2, (0, x2)), (3, (2, x3)), (4, (2, x4))]) 1 rfl rfl ?_
  refine PW.pick [1, 2, 3, 4, 5, 0] rfl ?_
  exact h
theorem vX4_setSums_3 {l : Launch} {G : pG} {bg : Nat × Nat} {n : Nat} {K : Int → Nat × Nat} {F E : Int → Int → Int} {Q : Option pV → pM → Prop} (x0 x1 x2 x3 x4 x5 : Int) (h : ((3 ≤ x5 → Q (some (0, 1)) (n, K, F, E)) ∧ (¬ (3 ≤ x5) → (-2147483648 ≤ 3 + x5 ∧ 3 + x5 < 2147483648) ∧ (K x1).1 = 9 ∧ (-2147483648 ≤ x2 * 6 ∧ x2 * 6 < 2147483648) ∧ (-2147483648 ≤ (x2 * 6) + (3 + x5) ∧ (x2 * 6) + (3 + x5) < 2147483648) ∧ (K (F x1 0)).1 = 20 ∧ ((0 : Int) ≤ (x2 * 6) + (3 + x5) ∧ (x2 * 6) + (3 + x5) < ((K (F x1 0)).2 : Int)) ∧ ((¬ (E (F x1 0) ((x2 * 6) + (3 + x5))) = (-1) → (K x0).1 = 4 ∧ PC l G 1 mX4_value (0, 0) [(2, x0), (2, F x1 1), (0, E (F x1 0) ((x2 * 6) + (3 + x5))), (2, x3)] (n, K, F, E) (fun r μ => PW l G 2 mX4_setSums bg 41 [(0, (2, x0)), (1, (2, x1)), (2, (0, x2)), (3, (2, x3)), (4, (2, x4)), (5, (0, x5))] (r.toList ++ []) μ Q)) ∧ ((E (F x1 0) ((x2 * 6) + (3 + x5))) = (-1) → (0 : Int) ≤ x4 ∧ (K x4).1 = 20 ∧ ((0 : Int) ≤ x5 ∧ x5 < ((K x4).2 : Int)) ∧ (∀ E1, E1 = pUp E x4 x5 0 → (-2147483648 ≤ x5 + 1 ∧ x5 + 1 < 2147483648) ∧ PW l G 2 mX4_setSums bg 3 [(0, (2, x0)), (1, (2, x1)), (2, (0, x2)), (3, (2, x3)), (4, (2, x4)), (5, (0, x5 + 1))] [] (n, K, F, E1) Q)))))) : PW l G 2 mX4_setSums bg 3 [(0, (2, x0)), (1, (2, x1)), (2, (0, x2)), (3, (2, x3)), (4, (2, x4)), (5, (0, x5))] [] (n, K, F, E) Q := by
  refine s_iload (q := 5) 2 5 rfl rfl ?_
  refine s_iconst (q := 6) 3 rfl ?_
  refine s_icmp_ge (q := 9) (tgt := 68) 4 rfl rfl (fun hb => ?_) (fun hb => ?_)
  · skip
    have b1 := hb
    replace h := h.1 hb
    refine s_iconst (q := 69) 37 rfl ?_
    exact s_zret 38 rfl rfl (by decide) h
  · skip
    have b1 := hb
    replace h := h.2 hb
    refine s_aload_n (q := 10) 5 1 rfl rfl ?_
    refine s_iload_n (q := 11) 6 2 rfl rfl ?_
    refine s_iconst (q := 12) 7 rfl ?_
    refine s_iload (q := 14) 8 5 rfl rfl ?_
    obtain ⟨c2, h⟩ := h
    refine n_iadd (q := 15) 9 rfl c2 ?_
    obtain ⟨c3, h⟩ := h
    refine n_callV (N := mX9_part) (as := [(0, x2), (0, 3 + x5)]) (st := []) (q := 18) (d' := 0) 10 rfl uX9_part kX4_17 rfl c3 ?_
    show PW l G 0 mX9_part (0, 0) 0 [(0, (2, x1)), (1, (0, x2)), (2, (0, 3 + x5))] [] (n, K, F, E) _
    refine s_aload_n (q := 1) 0 0 rfl rfl ?_
    refine n_getf (q := 4) (jj := 0) 1 9 0 rfl kX9_11 c3 ?_
    refine s_iload_n (q := 5) 2 1 rfl rfl ?_
    refine s_bipush (q := 7) 3 rfl ?_
    obtain ⟨c4, h⟩ := h
    refine n_imul (q := 8) 4 rfl c4 ?_
    refine s_iload_n (q := 9) 5 2 rfl rfl ?_
    obtain ⟨c5, h⟩ := h
    refine n_iadd (q := 10) 6 rfl c5 ?_
    obtain ⟨c6, h⟩ := h
    obtain ⟨c7, h⟩ := h
    refine n_iald (q := 11) 7 rfl c6 c7 ?_
    refine s_iret 8 rfl rfl ?_
    show PW l G 2 mX4_setSums bg 18 [(0, (2, x0)), (1, (2, x1)), (2, (0, x2)), (3, (2, x3)), (4, (2, x4)), (5, (0, x5))] [(0, E (F x1 0) ((x2 * 6) + (3 + x5)))] (n, K, F, E) Q
    refine s_istore (q := 20) (lv' := [(6, (0, E (F x1 0) ((x2 * 6) + (3 + x5)))), (0, (2, x0)), (1, (2, x1)), (2, (0, x2)), (3, (2, x3)), (4, (2, x4)), (5, (0, x5))]) 11 rfl rfl ?_
    refine s_iload (q := 22) 12 0 rfl rfl ?_
    refine s_iconst (q := 23) 13 rfl ?_
    refine s_icmp_ne (q := 26) (tgt := 30) 14 rfl rfl (fun hb => ?_) (fun hb => ?_)
    · skip
      have b8 := hb
      replace h := h.1 hb
      refine s_aload_n (q := 31) 17 1 rfl rfl ?_
      refine s_aload_n (q := 32) 18 2 rfl rfl ?_
      refine n_getf (q := 35) (jj := 1) 19 9 1 rfl kX4_21 c3 ?_
      refine s_iload (q := 37) 20 0 rfl rfl ?_
      refine s_aload_n (q := 38) 21 4 rfl rfl ?_
      obtain ⟨c9, h⟩ := h
      refine PW.pick [1, 2, 3, 4, 5, 6] rfl ?_
      exact n_callV (N := mX4_value) (as := [(2, F x1 1), (0, E (F x1 0) ((x2 * 6) + (3 + x5))), (2, x3)]) (st := []) (q := 41) (d' := 1) 22 rfl uX4_value kX4_25 rfl c9 h
    · have hb := Classical.not_not.mp hb
      have b8 := hb
      replace h := h.2 hb
      refine s_lconst (q := 27) (x := 0) 15 rfl ?_
      refine s_goto (tgt := 41) 16 rfl rfl ?_
      refine s_lstore (q := 43) (lv' := [(7, (1, 0)), (6, (0, E (F x1 0) ((x2 * 6) + (3 + x5)))), (0, (2, x0)), (1, (2, x1)), (2, (0, x2)), (3, (2, x3)), (4, (2, x4)), (5, (0, x5))]) 23 rfl rfl ?_
      refine s_lload (q := 45) 24 0 rfl rfl ?_
      refine s_ldc2 (q := 48) (x := 2000000000) 25 rfl kX4_29 ?_
      refine s_lcmp (q := 49) 26 rfl ?_
      refine s_if_ne (q := 52) (tgt := 54) 27 rfl rfl (fun _ => ?_) (fun hb => absurd (by decide) hb)
      refine s_aload (q := 56) 30 6 rfl rfl ?_
      refine s_iload (q := 58) 31 7 rfl rfl ?_
      refine s_lload (q := 60) 32 0 rfl rfl ?_
      refine n_l2i (q := 61) 33 rfl (by decide) ?_
      obtain ⟨c10, h⟩ := h
      obtain ⟨c11, h⟩ := h
      obtain ⟨c12, h⟩ := h
      refine n_iast (q := 62) 34 rfl c10 c11 c12 ?_
      refine PW.nameE (fun E1 eE1 => ?_)
      replace h := h E1 eE1
      obtain ⟨c13, h⟩ := h
      refine n_iinc (q := 65) (lv' := [(5, (0, x5 + 1)), (7, (1, 0)), (6, (0, E (F x1 0) ((x2 * 6) + (3 + x5)))), (0, (2, x0)), (1, (2, x1)), (2, (0, x2)), (3, (2, x3)), (4, (2, x4))]) 35 7 rfl rfl c13 rfl ?_
      refine s_goto (tgt := 3) 36 rfl rfl ?_
      refine PW.pick [3, 4, 5, 6, 7, 0] rfl ?_
      exact h
theorem vX4_setSums_41 {l : Launch} {G : pG} {bg : Nat × Nat} {n : Nat} {K : Int → Nat × Nat} {F E : Int → Int → Int} {Q : Option pV → pM → Prop} (x0 x1 x2 x3 x4 x5 s0 : Int) (h : ((¬ s0 = 2000000000 → (-2147483648 ≤ s0 ∧ s0 < 2147483648) ∧ (0 : Int) ≤ x4 ∧ (K x4).1 = 20 ∧ ((0 : Int) ≤ x5 ∧ x5 < ((K x4).2 : Int)) ∧ (∀ E1, E1 = pUp E x4 x5 s0 → (-2147483648 ≤ x5 + 1 ∧ x5 + 1 < 2147483648) ∧ PW l G 2 mX4_setSums bg 3 [(0, (2, x0)), (1, (2, x1)), (2, (0, x2)), (3, (2, x3)), (4, (2, x4)), (5, (0, x5 + 1))] [] (n, K, F, E1) Q)) ∧ (s0 = 2000000000 → Q (some (0, 0)) (n, K, F, E)))) : PW l G 2 mX4_setSums bg 41 [(0, (2, x0)), (1, (2, x1)), (2, (0, x2)), (3, (2, x3)), (4, (2, x4)), (5, (0, x5))] [(1, s0)] (n, K, F, E) Q := by
  refine s_lstore (q := 43) (lv' := [(7, (1, s0)), (0, (2, x0)), (1, (2, x1)), (2, (0, x2)), (3, (2, x3)), (4, (2, x4)), (5, (0, x5))]) 23 rfl rfl ?_
  refine s_lload (q := 45) 24 0 rfl rfl ?_
  refine s_ldc2 (q := 48) (x := 2000000000) 25 rfl kX4_29 ?_
  refine s_lcmp (q := 49) 26 rfl ?_
  refine s_if_ne (q := 52) (tgt := 54) 27 rfl rfl (fun hb => ?_) (fun hb => ?_)
  · have hb := mt lCmp_eq.mpr hb
    have b1 := hb
    replace h := h.1 hb
    refine s_aload (q := 56) 30 5 rfl rfl ?_
    refine s_iload (q := 58) 31 6 rfl rfl ?_
    refine s_lload (q := 60) 32 0 rfl rfl ?_
    obtain ⟨c2, h⟩ := h
    refine n_l2i (q := 61) 33 rfl c2 ?_
    obtain ⟨c3, h⟩ := h
    obtain ⟨c4, h⟩ := h
    obtain ⟨c5, h⟩ := h
    refine n_iast (q := 62) 34 rfl c3 c4 c5 ?_
    refine PW.nameE (fun E1 eE1 => ?_)
    replace h := h E1 eE1
    obtain ⟨c6, h⟩ := h
    refine n_iinc (q := 65) (lv' := [(5, (0, x5 + 1)), (7, (1, s0)), (0, (2, x0)), (1, (2, x1)), (2, (0, x2)), (3, (2, x3)), (4, (2, x4))]) 35 6 rfl rfl c6 rfl ?_
    refine s_goto (tgt := 3) 36 rfl rfl ?_
    refine PW.pick [2, 3, 4, 5, 6, 0] rfl ?_
    exact h
  · have hb := lCmp_eq.mp (Classical.not_not.mp hb)
    have b1 := hb
    replace h := h.2 hb
    refine s_iconst (q := 53) 28 rfl ?_
    exact s_zret 29 rfl rfl (by decide) h
