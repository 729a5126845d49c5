theorem vX12_is_0 {l : Launch} {G : pG} {bg : Nat × Nat} {n : Nat} {K : Int → Nat × Nat} {F E : Int → Int → Int} {Q : Option pV → pM → Prop} (x0 x1 : Int) (h : ((¬ (bAnd (bShr x0 x1) 1) = 1 → Q (some (0, 0)) (n, K, F, E)) ∧ ((bAnd (bShr x0 x1) 1) = 1 → Q (some (0, 1)) (n, K, F, E)))) : PW l G 0 mX12_is bg 0 [(0, (0, x0)), (1, (0, x1))] [] (n, K, F, E) Q := by
  refine s_iload_n (q := 1) 0 0 rfl rfl ?_
  refine s_iload_n (q := 2) 1 1 rfl rfl ?_
  refine s_ishr (q := 3) 2 rfl ?_
  refine s_iconst (q := 4) 3 rfl ?_
  refine s_iand (q := 5) 4 rfl ?_
  refine s_iconst (q := 6) 5 rfl ?_
  refine s_icmp_ne (q := 9) (tgt := 13) 6 rfl rfl (fun hb => ?_) (fun hb => ?_)
  · skip
    have b1 := hb
    replace h := h.1 hb
    refine s_iconst (q := 14) 9 rfl ?_
    exact s_zret 10 rfl rfl (by decide) h
  · have hb := Classical.not_not.mp hb
    have b1 := hb
    replace h := h.2 hb
    refine s_iconst (q := 10) 7 rfl ?_
    refine s_goto (tgt := 14) 8 rfl rfl ?_
    exact s_zret 10 rfl rfl (by decide) h
theorem vX12_many_0 {l : Launch} {G : pG} {bg : Nat × Nat} {n : Nat} {K : Int → Nat × Nat} {F E : Int → Int → Int} {Q : Option pV → pM → Prop} (x0 : Int) (h : PW l G 0 mX12_many bg 4 [(0, (0, x0)), (1, (0, 0)), (2, (0, 0))] [] (n, K, F, E) Q) : PW l G 0 mX12_many bg 0 [(0, (0, x0))] [] (n, K, F, E) Q := by
  refine s_iconst (q := 1) 0 rfl ?_
  refine s_istore_n (q := 2) (lv' := [(1, (0, 0)), (0, (0, x0))]) 1 rfl rfl ?_
  refine s_iconst (q := 3) 2 rfl ?_
  refine s_istore_n (q := 4) (lv' := [(2, (0, 0)), (1, (0, 0)), (0, (0, x0))]) 3 rfl rfl ?_
  refine PW.pick [2, 1, 0] rfl ?_
  exact h
theorem vX12_many_4 {l : Launch} {G : pG} {bg : Nat × Nat} {n : Nat} {K : Int → Nat × Nat} {F E : Int → Int → Int} {Q : Option pV → pM → Prop} (x0 x1 x2 : Int) (h : ((4 ≤ x2 → Q (some (0, x1)) (n, K, F, E)) ∧ (¬ (4 ≤ x2) → (-2147483648 ≤ x1 + (bAnd (bShr x0 x2) 1) ∧ x1 + (bAnd (bShr x0 x2) 1) < 2147483648) ∧ (-2147483648 ≤ x2 + 1 ∧ x2 + 1 < 2147483648) ∧ PW l G 0 mX12_many bg 4 [(0, (0, x0)), (1, (0, x1 + (bAnd (bShr x0 x2) 1))), (2, (0, x2 + 1))] [] (n, K, F, E) Q))) : PW l G 0 mX12_many bg 4 [(0, (0, x0)), (1, (0, x1)), (2, (0, x2))] [] (n, K, F, E) Q := by
  refine s_iload_n (q := 5) 4 2 rfl rfl ?_
  refine s_iconst (q := 6) 5 rfl ?_
  refine s_icmp_ge (q := 9) (tgt := 23) 6 rfl rfl (fun hb => ?_) (fun hb => ?_)
  · skip
    have b1 := hb
    replace h := h.1 hb
    refine s_iload_n (q := 24) 17 1 rfl rfl ?_
    exact s_iret 18 rfl rfl h
  · skip
    have b1 := hb
    replace h := h.2 hb
    refine s_iload_n (q := 10) 7 1 rfl rfl ?_
    refine s_iload_n (q := 11) 8 0 rfl rfl ?_
    refine s_iload_n (q := 12) 9 2 rfl rfl ?_
    refine s_ishr (q := 13) 10 rfl ?_
    refine s_iconst (q := 14) 11 rfl ?_
    refine s_iand (q := 15) 12 rfl ?_
    obtain ⟨c2, h⟩ := h
    refine n_iadd (q := 16) 13 rfl c2 ?_
    refine s_istore_n (q := 17) (lv' := [(1, (0, x1 + (bAnd (bShr x0 x2) 1))), (0, (0, x0)), (2, (0, x2))]) 14 rfl rfl ?_
    obtain ⟨c3, h⟩ := h
    refine n_iinc (q := 20) (lv' := [(2, (0, x2 + 1)), (1, (0, x1 + (bAnd (bShr x0 x2) 1))), (0, (0, x0))]) 15 2 rfl rfl c3 rfl ?_
    refine s_goto (tgt := 4) 16 rfl rfl ?_
    refine PW.pick [2, 1, 0] rfl ?_
    exact h
theorem vX12_tell_0 {l : Launch} {G : pG} {bg : Nat × Nat} {n : Nat} {K : Int → Nat × Nat} {F E : Int → Int → Int} {Q : Option pV → pM → Prop} (x0 x1 : Int) (h : ((0 ≤ x1 → (K x0).1 = 12 ∧ (∀ F1, F1 = pUp F x0 1 0 → ((0 ≤ x1 → Q (some (0, x1)) (n, K, F1, E)) ∧ (¬ (0 ≤ x1) → (-2147483648 ≤ -x1 ∧ -x1 < 2147483648) ∧ (K (F x0 2)).1 = 20 ∧ ((0 : Int) ≤ -x1 ∧ -x1 < ((K (F x0 2)).2 : Int)) ∧ (0 : Int) ≤ F x0 2 ∧ (∀ E2, E2 = pUp E (F x0 2) (-x1) (w32 ((E (F x0 2) (-x1)) + 1)) → Q (some (0, x1)) (n, K, F1, E2)))))) ∧ (¬ (0 ≤ x1) → (K x0).1 = 12 ∧ (∀ F3, F3 = pUp F x0 1 x1 → ((0 ≤ x1 → Q (some (0, x1)) (n, K, F3, E)) ∧ (¬ (0 ≤ x1) → (-2147483648 ≤ -x1 ∧ -x1 < 2147483648) ∧ (K (F x0 2)).1 = 20 ∧ ((0 : Int) ≤ -x1 ∧ -x1 < ((K (F x0 2)).2 : Int)) ∧ (0 : Int) ≤ F x0 2 ∧ (∀ E4, E4 = pUp E (F x0 2) (-x1) (w32 ((E (F x0 2) (-x1)) + 1)) → Q (some (0, x1)) (n, K, F3, E4)))))))) : PW l G 0 mX12_tell bg 0 [(0, (2, x0)), (1, (0, x1))] [] (n, K, F, E) Q := by
  refine s_aload_n (q := 1) 0 0 rfl rfl ?_
  refine s_iload_n (q := 2) 1 1 rfl rfl ?_
  refine s_if_ge (q := 5) (tgt := 9) 2 rfl rfl (fun hb => ?_) (fun hb => ?_)
  · skip
    have b1 := hb
    replace h := h.1 hb
    refine s_iconst (q := 10) 5 rfl ?_
    obtain ⟨c2, h⟩ := h
    refine n_putf (q := 13) (jj := 1) 6 12 1 rfl kX12_177 c2 (Or.inl rfl) ?_
    refine PW.nameF (fun F1 eF1 => ?_)
    replace h := h F1 eF1
    refine s_iload_n (q := 14) 7 1 rfl rfl ?_
    refine s_if_ge (q := 17) (tgt := 28) 8 rfl rfl (fun hb => ?_) (fun hb => ?_)
    · skip
      have b3 := hb
      replace h := h.1 hb
      refine s_iload_n (q := 29) 18 1 rfl rfl ?_
      exact s_iret 19 rfl rfl h
    · skip
      have b3 := hb
      replace h := h.2 hb
      refine s_aload_n (q := 18) 9 0 rfl rfl ?_
      refine n_getf (q := 21) (jj := 2) 10 12 2 rfl kX12_7 c2 ?_
      refine PW.top (b := F x0 2) (by exact (congrFun (congrFun eF1 _) _).trans (pUp_k (by decide))) ?_
      refine s_iload_n (q := 22) 11 1 rfl rfl ?_
      obtain ⟨c4, h⟩ := h
      refine n_ineg (q := 23) 12 rfl c4 ?_
      refine s_dup2 (q := 24) 13 rfl ?_
      obtain ⟨c5, h⟩ := h
      obtain ⟨c6, h⟩ := h
      refine n_iald (q := 25) 14 rfl c5 c6 ?_
      refine s_iconst (q := 26) 15 rfl ?_
      refine s_iadd (q := 27) 16 rfl ?_
      obtain ⟨c7, h⟩ := h
      refine n_iast (q := 28) 17 rfl c7 c5 c6 ?_
      refine PW.nameE (fun E2 eE2 => ?_)
      replace h := h E2 eE2
      refine s_iload_n (q := 29) 18 1 rfl rfl ?_
      exact s_iret 19 rfl rfl h
  · skip
    have b1 := hb
    replace h := h.2 hb
    refine s_iload_n (q := 6) 3 1 rfl rfl ?_
    refine s_goto (tgt := 10) 4 rfl rfl ?_
    obtain ⟨c8, h⟩ := h
    refine n_putf (q := 13) (jj := 1) 6 12 1 rfl kX12_177 c8 (Or.inl rfl) ?_
    refine PW.nameF (fun F3 eF3 => ?_)
    replace h := h F3 eF3
    refine s_iload_n (q := 14) 7 1 rfl rfl ?_
    refine s_if_ge (q := 17) (tgt := 28) 8 rfl rfl (fun hb => ?_) (fun hb => ?_)
    · skip
      have b9 := hb
      replace h := h.1 hb
      refine s_iload_n (q := 29) 18 1 rfl rfl ?_
      exact s_iret 19 rfl rfl h
    · skip
      have b9 := hb
      replace h := h.2 hb
      refine s_aload_n (q := 18) 9 0 rfl rfl ?_
      refine n_getf (q := 21) (jj := 2) 10 12 2 rfl kX12_7 c8 ?_
      refine PW.top (b := F x0 2) (by exact (congrFun (congrFun eF3 _) _).trans (pUp_k (by decide))) ?_
      refine s_iload_n (q := 22) 11 1 rfl rfl ?_
      obtain ⟨c10, h⟩ := h
      refine n_ineg (q := 23) 12 rfl c10 ?_
      refine s_dup2 (q := 24) 13 rfl ?_
      obtain ⟨c11, h⟩ := h
      obtain ⟨c12, h⟩ := h
      refine n_iald (q := 25) 14 rfl c11 c12 ?_
      refine s_iconst (q := 26) 15 rfl ?_
      refine s_iadd (q := 27) 16 rfl ?_
      obtain ⟨c13, h⟩ := h
      refine n_iast (q := 28) 17 rfl c13 c11 c12 ?_
      refine PW.nameE (fun E4 eE4 => ?_)
      replace h := h E4 eE4
      refine s_iload_n (q := 29) 18 1 rfl rfl ?_
      exact s_iret 19 rfl rfl h
theorem vX12_keepAll_0 {l : Launch} {G : pG} {bg : Nat × Nat} {n : Nat} {K : Int → Nat × Nat} {F E : Int → Int → Int} {Q : Option pV → pM → Prop} (x0 x1 : Int) (h : PW l G 0 mX12_keepAll bg 2 [(0, (2, x0)), (1, (0, x1)), (2, (0, 0))] [] (n, K, F, E) Q) : PW l G 0 mX12_keepAll bg 0 [(0, (2, x0)), (1, (0, x1))] [] (n, K, F, E) Q := by
  refine s_iconst (q := 1) 0 rfl ?_
  refine s_istore_n (q := 2) (lv' := [(2, (0, 0)), (0, (2, x0)), (1, (0, x1))]) 1 rfl rfl ?_
  refine PW.pick [1, 2, 0] rfl ?_
  exact h
theorem vX12_keepAll_2 {l : Launch} {G : pG} {bg : Nat × Nat} {n : Nat} {K : Int → Nat × Nat} {F E : Int → Int → Int} {Q : Option pV → pM → Prop} (x0 x1 x2 : Int) (h : ((117 ≤ x2 → Q none (n, K, F, E)) ∧ (¬ (117 ≤ x2) → (K x0).1 = 12 ∧ (-2147483648 ≤ 117 * x1 ∧ 117 * x1 < 2147483648) ∧ (-2147483648 ≤ (117 * x1) + x2 ∧ (117 * x1) + x2 < 2147483648) ∧ (-2147483648 ≤ 6 + x2 ∧ 6 + x2 < 2147483648) ∧ (K (F x0 3)).1 = 20 ∧ ((0 : Int) ≤ 6 + x2 ∧ 6 + x2 < ((K (F x0 3)).2 : Int)) ∧ (0 : Int) ≤ F x0 6 ∧ (K (F x0 6)).1 = 20 ∧ ((0 : Int) ≤ (117 * x1) + x2 ∧ (117 * x1) + x2 < ((K (F x0 6)).2 : Int)) ∧ (∀ E1, E1 = pUp E (F x0 6) ((117 * x1) + x2) (E (F x0 3) (6 + x2)) → (-2147483648 ≤ x2 + 1 ∧ x2 + 1 < 2147483648) ∧ PW l G 0 mX12_keepAll bg 2 [(0, (2, x0)), (1, (0, x1)), (2, (0, x2 + 1))] [] (n, K, F, E1) Q)))) : PW l G 0 mX12_keepAll bg 2 [(0, (2, x0)), (1, (0, x1)), (2, (0, x2))] [] (n, K, F, E) Q := by
  refine s_iload_n (q := 3) 2 2 rfl rfl ?_
  refine s_bipush (q := 5) 3 rfl ?_
  refine s_icmp_ge (q := 8) (tgt := 34) 4 rfl rfl (fun hb => ?_) (fun hb => ?_)
  · skip
    have b1 := hb
    replace h := h.1 hb
    exact s_vret 21 rfl rfl h
  · skip
    have b1 := hb
    replace h := h.2 hb
    refine s_aload_n (q := 9) 5 0 rfl rfl ?_
    obtain ⟨c2, h⟩ := h
    refine n_getf (q := 12) (jj := 6) 6 12 6 rfl kX12_23 c2 ?_
    refine s_bipush (q := 14) 7 rfl ?_
    refine s_iload_n (q := 15) 8 1 rfl rfl ?_
    obtain ⟨c3, h⟩ := h
    refine n_imul (q := 16) 9 rfl c3 ?_
    refine s_iload_n (q := 17) 10 2 rfl rfl ?_
    obtain ⟨c4, h⟩ := h
    refine n_iadd (q := 18) 11 rfl c4 ?_
    refine s_aload_n (q := 19) 12 0 rfl rfl ?_
    refine n_getf (q := 22) (jj := 3) 13 12 3 rfl kX12_13 c2 ?_
    refine s_bipush (q := 24) 14 rfl ?_
    refine s_iload_n (q := 25) 15 2 rfl rfl ?_
    obtain ⟨c5, h⟩ := h
    refine n_iadd (q := 26) 16 rfl c5 ?_
    obtain ⟨c6, h⟩ := h
    obtain ⟨c7, h⟩ := h
    refine n_iald (q := 27) 17 rfl c6 c7 ?_
    obtain ⟨c8, h⟩ := h
    obtain ⟨c9, h⟩ := h
    obtain ⟨c10, h⟩ := h
    refine n_iast (q := 28) 18 rfl c8 c9 c10 ?_
    refine PW.nameE (fun E1 eE1 => ?_)
    replace h := h E1 eE1
    obtain ⟨c11, h⟩ := h
    refine n_iinc (q := 31) (lv' := [(2, (0, x2 + 1)), (0, (2, x0)), (1, (0, x1))]) 19 2 rfl rfl c11 rfl ?_
    refine s_goto (tgt := 2) 20 rfl rfl ?_
    refine PW.pick [1, 2, 0] rfl ?_
    exact h
theorem vX12_putBack_0 {l : Launch} {G : pG} {bg : Nat × Nat} {n : Nat} {K : Int → Nat × Nat} {F E : Int → Int → Int} {Q : Option pV → pM → Prop} (x0 x1 : Int) (h : PW l G 0 mX12_putBack bg 2 [(0, (2, x0)), (1, (0, x1)), (2, (0, 0))] [] (n, K, F, E) Q) : PW l G 0 mX12_putBack bg 0 [(0, (2, x0)), (1, (0, x1))] [] (n, K, F, E) Q := by
  refine s_iconst (q := 1) 0 rfl ?_
  refine s_istore_n (q := 2) (lv' := [(2, (0, 0)), (0, (2, x0)), (1, (0, x1))]) 1 rfl rfl ?_
  refine PW.pick [1, 2, 0] rfl ?_
  exact h
theorem vX12_putBack_2 {l : Launch} {G : pG} {bg : Nat × Nat} {n : Nat} {K : Int → Nat × Nat} {F E : Int → Int → Int} {Q : Option pV → pM → Prop} (x0 x1 x2 : Int) (h : ((117 ≤ x2 → Q none (n, K, F, E)) ∧ (¬ (117 ≤ x2) → (K x0).1 = 12 ∧ (-2147483648 ≤ 6 + x2 ∧ 6 + x2 < 2147483648) ∧ (-2147483648 ≤ 117 * x1 ∧ 117 * x1 < 2147483648) ∧ (-2147483648 ≤ (117 * x1) + x2 ∧ (117 * x1) + x2 < 2147483648) ∧ (K (F x0 6)).1 = 20 ∧ ((0 : Int) ≤ (117 * x1) + x2 ∧ (117 * x1) + x2 < ((K (F x0 6)).2 : Int)) ∧ (0 : Int) ≤ F x0 3 ∧ (K (F x0 3)).1 = 20 ∧ ((0 : Int) ≤ 6 + x2 ∧ 6 + x2 < ((K (F x0 3)).2 : Int)) ∧ (∀ E1, E1 = pUp E (F x0 3) (6 + x2) (E (F x0 6) ((117 * x1) + x2)) → (-2147483648 ≤ x2 + 1 ∧ x2 + 1 < 2147483648) ∧ PW l G 0 mX12_putBack bg 2 [(0, (2, x0)), (1, (0, x1)), (2, (0, x2 + 1))] [] (n, K, F, E1) Q)))) : PW l G 0 mX12_putBack bg 2 [(0, (2, x0)), (1, (0, x1)), (2, (0, x2))] [] (n, K, F, E) Q := by
  refine s_iload_n (q := 3) 2 2 rfl rfl ?_
  refine s_bipush (q := 5) 3 rfl ?_
  refine s_icmp_ge (q := 8) (tgt := 34) 4 rfl rfl (fun hb => ?_) (fun hb => ?_)
  · skip
    have b1 := hb
    replace h := h.1 hb
    exact s_vret 21 rfl rfl h
  · skip
    have b1 := hb
    replace h := h.2 hb
    refine s_aload_n (q := 9) 5 0 rfl rfl ?_
    obtain ⟨c2, h⟩ := h
    refine n_getf (q := 12) (jj := 3) 6 12 3 rfl kX12_13 c2 ?_
    refine s_bipush (q := 14) 7 rfl ?_
    refine s_iload_n (q := 15) 8 2 rfl rfl ?_
    obtain ⟨c3, h⟩ := h
    refine n_iadd (q := 16) 9 rfl c3 ?_
    refine s_aload_n (q := 17) 10 0 rfl rfl ?_
    refine n_getf (q := 20) (jj := 6) 11 12 6 rfl kX12_23 c2 ?_
    refine s_bipush (q := 22) 12 rfl ?_
    refine s_iload_n (q := 23) 13 1 rfl rfl ?_
    obtain ⟨c4, h⟩ := h
    refine n_imul (q := 24) 14 rfl c4 ?_
    refine s_iload_n (q := 25) 15 2 rfl rfl ?_
    obtain ⟨c5, h⟩ := h
    refine n_iadd (q := 26) 16 rfl c5 ?_
    obtain ⟨c6, h⟩ := h
    obtain ⟨c7, h⟩ := h
    refine n_iald (q := 27) 17 rfl c6 c7 ?_
    obtain ⟨c8, h⟩ := h
    obtain ⟨c9, h⟩ := h
    obtain ⟨c10, h⟩ := h
    refine n_iast (q := 28) 18 rfl c8 c9 c10 ?_
    refine PW.nameE (fun E1 eE1 => ?_)
    replace h := h E1 eE1
    obtain ⟨c11, h⟩ := h
    refine n_iinc (q := 31) (lv' := [(2, (0, x2 + 1)), (0, (2, x0)), (1, (0, x1))]) 19 2 rfl rfl c11 rfl ?_
    refine s_goto (tgt := 2) 20 rfl rfl ?_
    refine PW.pick [1, 2, 0] rfl ?_
    exact h
theorem vX12_rememberTried_0 {l : Launch} {G : pG} {bg : Nat × Nat} {n : Nat} {K : Int → Nat × Nat} {F E : Int → Int → Int} {Q : Option pV → pM → Prop} (x0 x1 : Int) (h : (K x0).1 = 12 ∧ ((¬ (F x0 8) = 16 → PW l G 0 mX12_rememberTried bg 79 [(0, (2, x0)), (1, (0, x1)), (2, (0, 0))] [] (n, K, F, E) Q) ∧ ((F x0 8) = 16 → PW l G 0 mX12_rememberTried bg 11 [(0, (2, x0)), (1, (0, x1)), (2, (0, 0))] [] (n, K, F, E) Q))) : PW l G 0 mX12_rememberTried bg 0 [(0, (2, x0)), (1, (0, x1))] [] (n, K, F, E) Q := by
  refine s_aload_n (q := 1) 0 0 rfl rfl ?_
  obtain ⟨c1, h⟩ := h
  refine n_getf (q := 4) (jj := 8) 1 12 8 rfl kX12_180 c1 ?_
  refine s_bipush (q := 6) 2 rfl ?_
  refine s_icmp_ne (q := 9) (tgt := 77) 3 rfl rfl (fun hb => ?_) (fun hb => ?_)
  · skip
    have b2 := hb
    replace h := h.1 hb
    refine s_iconst (q := 78) 44 rfl ?_
    refine s_istore_n (q := 79) (lv' := [(2, (0, 0)), (0, (2, x0)), (1, (0, x1))]) 45 rfl rfl ?_
    refine PW.pick [1, 2, 0] rfl ?_
    exact h
  · have hb := Classical.not_not.mp hb
    have b2 := hb
    replace h := h.2 hb
    refine s_iconst (q := 10) 4 rfl ?_
    refine s_istore_n (q := 11) (lv' := [(2, (0, 0)), (0, (2, x0)), (1, (0, x1))]) 5 rfl rfl ?_
    refine PW.pick [1, 2, 0] rfl ?_
    exact h
theorem vX12_rememberTried_11 {l : Launch} {G : pG} {bg : Nat × Nat} {n : Nat} {K : Int → Nat × Nat} {F E : Int → Int → Int} {Q : Option pV → pM → Prop} (x0 x1 x2 : Int) (h : ((1755 ≤ x2 → PW l G 0 mX12_rememberTried bg 41 [(0, (2, x0)), (1, (0, x1)), (2, (0, 0))] [] (n, K, F, E) Q) ∧ (¬ (1755 ≤ x2) → (K x0).1 = 12 ∧ (-2147483648 ≤ x2 + 117 ∧ x2 + 117 < 2147483648) ∧ (K (F x0 6)).1 = 20 ∧ ((0 : Int) ≤ x2 + 117 ∧ x2 + 117 < ((K (F x0 6)).2 : Int)) ∧ (0 : Int) ≤ F x0 6 ∧ ((0 : Int) ≤ x2 ∧ x2 < ((K (F x0 6)).2 : Int)) ∧ (∀ E1, E1 = pUp E (F x0 6) x2 (E (F x0 6) (x2 + 117)) → (-2147483648 ≤ x2 + 1 ∧ x2 + 1 < 2147483648) ∧ PW l G 0 mX12_rememberTried bg 11 [(0, (2, x0)), (1, (0, x1)), (2, (0, x2 + 1))] [] (n, K, F, E1) Q)))) : PW l G 0 mX12_rememberTried bg 11 [(0, (2, x0)), (1, (0, x1)), (2, (0, x2))] [] (n, K, F, E) Q := by
  refine s_iload_n (q := 12) 6 2 rfl rfl ?_
  refine s_sipush (q := 15) 7 rfl ?_
  refine s_icmp_ge (q := 18) (tgt := 39) 8 rfl rfl (fun hb => ?_) (fun hb => ?_)
  · skip
    have b1 := hb
    replace h := h.1 hb
    refine s_iconst (q := 40) 21 rfl ?_
    refine s_istore_n (q := 41) (lv' := [(2, (0, 0)), (0, (2, x0)), (1, (0, x1))]) 22 rfl rfl ?_
    refine PW.pick [1, 2, 0] rfl ?_
    exact h
  · skip
    have b1 := hb
    replace h := h.2 hb
    refine s_aload_n (q := 19) 9 0 rfl rfl ?_
    obtain ⟨c2, h⟩ := h
    refine n_getf (q := 22) (jj := 6) 10 12 6 rfl kX12_23 c2 ?_
    refine s_iload_n (q := 23) 11 2 rfl rfl ?_
    refine s_aload_n (q := 24) 12 0 rfl rfl ?_
    refine n_getf (q := 27) (jj := 6) 13 12 6 rfl kX12_23 c2 ?_
    refine s_iload_n (q := 28) 14 2 rfl rfl ?_
    refine s_bipush (q := 30) 15 rfl ?_
    obtain ⟨c3, h⟩ := h
    refine n_iadd (q := 31) 16 rfl c3 ?_
    obtain ⟨c4, h⟩ := h
    obtain ⟨c5, h⟩ := h
    refine n_iald (q := 32) 17 rfl c4 c5 ?_
    obtain ⟨c6, h⟩ := h
    obtain ⟨c7, h⟩ := h
    refine n_iast (q := 33) 18 rfl c6 c4 c7 ?_
    refine PW.nameE (fun E1 eE1 => ?_)
    replace h := h E1 eE1
    obtain ⟨c8, h⟩ := h
    refine n_iinc (q := 36) (lv' := [(2, (0, x2 + 1)), (0, (2, x0)), (1, (0, x1))]) 19 2 rfl rfl c8 rfl ?_
    refine s_goto (tgt := 11) 20 rfl rfl ?_
    refine PW.pick [1, 2, 0] rfl ?_
    exact h
theorem vX12_rememberTried_79 {l : Launch} {G : pG} {bg : Nat × Nat} {n : Nat} {K : Int → Nat × Nat} {F E : Int → Int → Int} {Q : Option pV → pM → Prop} (x0 x1 x2 : Int) (h : ((117 ≤ x2 → (K x0).1 = 12 ∧ (0 : Int) ≤ F x0 7 ∧ (K (F x0 7)).1 = 20 ∧ ((0 : Int) ≤ F x0 8 ∧ F x0 8 < ((K (F x0 7)).2 : Int)) ∧ (∀ E1, E1 = pUp E (F x0 7) (F x0 8) x1 → (-2147483648 ≤ (F x0 8) + 1 ∧ (F x0 8) + 1 < 2147483648) ∧ (∀ F2, F2 = pUp F x0 8 ((F x0 8) + 1) → Q none (n, K, F2, E1)))) ∧ (¬ (117 ≤ x2) → (K x0).1 = 12 ∧ (-2147483648 ≤ 117 * (F x0 8) ∧ 117 * (F x0 8) < 2147483648) ∧ (-2147483648 ≤ (117 * (F x0 8)) + x2 ∧ (117 * (F x0 8)) + x2 < 2147483648) ∧ (-2147483648 ≤ 2106 + x2 ∧ 2106 + x2 < 2147483648) ∧ (K (F x0 6)).1 = 20 ∧ ((0 : Int) ≤ 2106 + x2 ∧ 2106 + x2 < ((K (F x0 6)).2 : Int)) ∧ (0 : Int) ≤ F x0 6 ∧ ((0 : Int) ≤ (117 * (F x0 8)) + x2 ∧ (117 * (F x0 8)) + x2 < ((K (F x0 6)).2 : Int)) ∧ (∀ E3, E3 = pUp E (F x0 6) ((117 * (F x0 8)) + x2) (E (F x0 6) (2106 + x2)) → (-2147483648 ≤ x2 + 1 ∧ x2 + 1 < 2147483648) ∧ PW l G 0 mX12_rememberTried bg 79 [(0, (2, x0)), (1, (0, x1)), (2, (0, x2 + 1))] [] (n, K, F, E3) Q)))) : PW l G 0 mX12_rememberTried bg 79 [(0, (2, x0)), (1, (0, x1)), (2, (0, x2))] [] (n, K, F, E) Q := by
  refine s_iload_n (q := 80) 46 2 rfl rfl ?_
  refine s_bipush (q := 82) 47 rfl ?_
  refine s_icmp_ge (q := 85) (tgt := 115) 48 rfl rfl (fun hb => ?_) (fun hb => ?_)
  · skip
    have b1 := hb
    replace h := h.1 hb
    refine s_aload_n (q := 116) 66 0 rfl rfl ?_
    obtain ⟨c2, h⟩ := h
    refine n_getf (q := 119) (jj := 7) 67 12 7 rfl kX12_26 c2 ?_
    refine s_aload_n (q := 120) 68 0 rfl rfl ?_
    refine n_getf (q := 123) (jj := 8) 69 12 8 rfl kX12_180 c2 ?_
    refine s_iload_n (q := 124) 70 1 rfl rfl ?_
    obtain ⟨c3, h⟩ := h
    obtain ⟨c4, h⟩ := h
    obtain ⟨c5, h⟩ := h
    refine n_iast (q := 125) 71 rfl c3 c4 c5 ?_
    refine PW.nameE (fun E1 eE1 => ?_)
    replace h := h E1 eE1
    refine s_aload_n (q := 126) 72 0 rfl rfl ?_
    refine s_dup (q := 127) 73 rfl ?_
    refine n_getf (q := 130) (jj := 8) 74 12 8 rfl kX12_180 c2 ?_
    refine s_iconst (q := 131) 75 rfl ?_
    obtain ⟨c6, h⟩ := h
    refine n_iadd (q := 132) 76 rfl c6 ?_
    refine n_putf (q := 135) (jj := 8) 77 12 8 rfl kX12_180 c2 (Or.inl rfl) ?_
    refine PW.nameF (fun F2 eF2 => ?_)
    replace h := h F2 eF2
    exact s_vret 78 rfl rfl h
  · skip
    have b1 := hb
    replace h := h.2 hb
    refine s_aload_n (q := 86) 49 0 rfl rfl ?_
    obtain ⟨c7, h⟩ := h
    refine n_getf (q := 89) (jj := 6) 50 12 6 rfl kX12_23 c7 ?_
    refine s_bipush (q := 91) 51 rfl ?_
    refine s_aload_n (q := 92) 52 0 rfl rfl ?_
    refine n_getf (q := 95) (jj := 8) 53 12 8 rfl kX12_180 c7 ?_
    obtain ⟨c8, h⟩ := h
    refine n_imul (q := 96) 54 rfl c8 ?_
    refine s_iload_n (q := 97) 55 2 rfl rfl ?_
    obtain ⟨c9, h⟩ := h
    refine n_iadd (q := 98) 56 rfl c9 ?_
    refine s_aload_n (q := 99) 57 0 rfl rfl ?_
    refine n_getf (q := 102) (jj := 6) 58 12 6 rfl kX12_23 c7 ?_
    refine s_sipush (q := 105) 59 rfl ?_
    refine s_iload_n (q := 106) 60 2 rfl rfl ?_
    obtain ⟨c10, h⟩ := h
    refine n_iadd (q := 107) 61 rfl c10 ?_
    obtain ⟨c11, h⟩ := h
    obtain ⟨c12, h⟩ := h
    refine n_iald (q := 108) 62 rfl c11 c12 ?_
    obtain ⟨c13, h⟩ := h
    obtain ⟨c14, h⟩ := h
    refine n_iast (q := 109) 63 rfl c13 c11 c14 ?_
    refine PW.nameE (fun E3 eE3 => ?_)
    replace h := h E3 eE3
    obtain ⟨c15, h⟩ := h
    refine n_iinc (q := 112) (lv' := [(2, (0, x2 + 1)), (0, (2, x0)), (1, (0, x1))]) 64 2 rfl rfl c15 rfl ?_
    refine s_goto (tgt := 79) 65 rfl rfl ?_
    refine PW.pick [1, 2, 0] rfl ?_
    exact h
theorem vX12_rememberTried_41 {l : Launch} {G : pG} {bg : Nat × Nat} {n : Nat} {K : Int → Nat × Nat} {F E : Int → Int → Int} {Q : Option pV → pM → Prop} (x0 x1 x2 : Int) (h : ((15 ≤ x2 → (K x0).1 = 12 ∧ (-2147483648 ≤ (F x0 8) - 1 ∧ (F x0 8) - 1 < 2147483648) ∧ (∀ F1, F1 = pUp F x0 8 ((F x0 8) - 1) → PW l G 0 mX12_rememberTried bg 79 [(0, (2, x0)), (1, (0, x1)), (2, (0, 0))] [] (n, K, F1, E) Q)) ∧ (¬ (15 ≤ x2) → (K x0).1 = 12 ∧ (-2147483648 ≤ x2 + 1 ∧ x2 + 1 < 2147483648) ∧ (K (F x0 7)).1 = 20 ∧ ((0 : Int) ≤ x2 + 1 ∧ x2 + 1 < ((K (F x0 7)).2 : Int)) ∧ (0 : Int) ≤ F x0 7 ∧ ((0 : Int) ≤ x2 ∧ x2 < ((K (F x0 7)).2 : Int)) ∧ (∀ E2, E2 = pUp E (F x0 7) x2 (E (F x0 7) (x2 + 1)) → PW l G 0 mX12_rememberTried bg 41 [(0, (2, x0)), (1, (0, x1)), (2, (0, x2 + 1))] [] (n, K, F, E2) Q)))) : PW l G 0 mX12_rememberTried bg 41 [(0, (2, x0)), (1, (0, x1)), (2, (0, x2))] [] (n, K, F, E) Q := by
  refine s_iload_n (q := 42) 23 2 rfl rfl ?_
  refine s_bipush (q := 44) 24 rfl ?_
  refine s_icmp_ge (q := 47) (tgt := 67) 25 rfl rfl (fun hb => ?_) (fun hb => ?_)
  · skip
    have b1 := hb
    replace h := h.1 hb
    refine s_aload_n (q := 68) 38 0 rfl rfl ?_
    refine s_dup (q := 69) 39 rfl ?_
    obtain ⟨c2, h⟩ := h
    refine n_getf (q := 72) (jj := 8) 40 12 8 rfl kX12_180 c2 ?_
    refine s_iconst (q := 73) 41 rfl ?_
    obtain ⟨c3, h⟩ := h
    refine n_isub (q := 74) 42 rfl c3 ?_
    refine n_putf (q := 77) (jj := 8) 43 12 8 rfl kX12_180 c2 (Or.inl rfl) ?_
    refine PW.nameF (fun F1 eF1 => ?_)
    replace h := h F1 eF1
    refine s_iconst (q := 78) 44 rfl ?_
    refine s_istore_n (q := 79) (lv' := [(2, (0, 0)), (0, (2, x0)), (1, (0, x1))]) 45 rfl rfl ?_
    refine PW.pick [1, 2, 0] rfl ?_
    exact h
  · skip
    have b1 := hb
    replace h := h.2 hb
    refine s_aload_n (q := 48) 26 0 rfl rfl ?_
    obtain ⟨c4, h⟩ := h
    refine n_getf (q := 51) (jj := 7) 27 12 7 rfl kX12_26 c4 ?_
    refine s_iload_n (q := 52) 28 2 rfl rfl ?_
    refine s_aload_n (q := 53) 29 0 rfl rfl ?_
    refine n_getf (q := 56) (jj := 7) 30 12 7 rfl kX12_26 c4 ?_
    refine s_iload_n (q := 57) 31 2 rfl rfl ?_
    refine s_iconst (q := 58) 32 rfl ?_
    obtain ⟨c5, h⟩ := h
    refine n_iadd (q := 59) 33 rfl c5 ?_
    obtain ⟨c6, h⟩ := h
    obtain ⟨c7, h⟩ := h
    refine n_iald (q := 60) 34 rfl c6 c7 ?_
    obtain ⟨c8, h⟩ := h
    obtain ⟨c9, h⟩ := h
    refine n_iast (q := 61) 35 rfl c8 c6 c9 ?_
    refine PW.nameE (fun E2 eE2 => ?_)
    replace h := h E2 eE2
    refine n_iinc (q := 64) (lv' := [(2, (0, x2 + 1)), (0, (2, x0)), (1, (0, x1))]) 36 2 rfl rfl c5 rfl ?_
    refine s_goto (tgt := 41) 37 rfl rfl ?_
    refine PW.pick [1, 2, 0] rfl ?_
    exact h
theorem vX12_remember_0 {l : Launch} {G : pG} {bg : Nat × Nat} {n : Nat} {K : Int → Nat × Nat} {F E : Int → Int → Int} {Q : Option pV → pM → Prop} (x0 x1 : Int) (h : (K x0).1 = 12 ∧ PC l G 0 mX12_keepAll (0, 0) [(2, x0), (0, 18)] (n, K, F, E) (fun r μ => PW l G 1 mX12_remember bg 6 [(0, (2, x0)), (1, (0, x1))] (r.toList ++ []) μ Q)) : PW l G 1 mX12_remember bg 0 [(0, (2, x0)), (1, (0, x1))] [] (n, K, F, E) Q := by
  refine s_aload_n (q := 1) 0 0 rfl rfl ?_
  refine s_bipush (q := 3) 1 rfl ?_
  obtain ⟨c1, h⟩ := h
  refine PW.pick [0, 1] rfl ?_
  exact n_callV (N := mX12_keepAll) (as := [(0, 18)]) (st := []) (q := 6) (d' := 0) 2 rfl uX12_keepAll kX12_183 rfl c1 h
theorem vX12_remember_6 {l : Launch} {G : pG} {bg : Nat × Nat} {n : Nat} {K : Int → Nat × Nat} {F E : Int → Int → Int} {Q : Option pV → pM → Prop} (x0 x1 : Int) (h : (K x0).1 = 12 ∧ PC l G 0 mX12_rememberTried (0, 0) [(2, x0), (0, x1)] (n, K, F, E) (fun r μ => PW l G 1 mX12_remember bg 11 [] (r.toList ++ []) μ Q)) : PW l G 1 mX12_remember bg 6 [(0, (2, x0)), (1, (0, x1))] [] (n, K, F, E) Q := by
  refine s_aload_n (q := 7) 3 0 rfl rfl ?_
  refine s_iload_n (q := 8) 4 1 rfl rfl ?_
  obtain ⟨c1, h⟩ := h
  refine PW.pick [] rfl ?_
  exact n_callV (N := mX12_rememberTried) (as := [(0, x1)]) (st := []) (q := 11) (d' := 0) 5 rfl uX12_rememberTried kX12_187 rfl c1 h
theorem vX12_remember_11 {l : Launch} {G : pG} {bg : Nat × Nat} {n : Nat} {K : Int → Nat × Nat} {F E : Int → Int → Int} {Q : Option pV → pM → Prop} (h : Q none (n, K, F, E)) : PW l G 1 mX12_remember bg 11 [] [] (n, K, F, E) Q := by
  exact s_vret 6 rfl rfl h
theorem vX12_undo_0 {l : Launch} {G : pG} {bg : Nat × Nat} {n : Nat} {K : Int → Nat × Nat} {F E : Int → Int → Int} {Q : Option pV → pM → Prop} (x0 : Int) (h : (K x0).1 = 12 ∧ (∀ F1, F1 = pUp F x0 0 0 → ((¬ (F x0 8) = 0 → (-2147483648 ≤ (F x0 8) - 1 ∧ (F x0 8) - 1 < 2147483648) ∧ (∀ F2, F2 = pUp F1 x0 8 ((F x0 8) - 1) → PC l G 0 mX12_putBack (0, 0) [(2, x0), (0, (F x0 8) - 1)] (n, K, F2, E) (fun r μ => PW l G 1 mX12_undo bg 37 [(0, (2, x0))] (r.toList ++ []) μ Q))) ∧ ((F x0 8) = 0 → PC l G 0 mX12_tell (0, 0) [(2, x0), (0, (-3))] (n, K, F1, E) (fun r μ => PW l G 1 mX12_undo bg 18 [] (r.toList ++ []) μ Q))))) : PW l G 1 mX12_undo bg 0 [(0, (2, x0))] [] (n, K, F, E) Q := by
  refine s_aload_n (q := 1) 0 0 rfl rfl ?_
  refine s_iconst (q := 2) 1 rfl ?_
  obtain ⟨c1, h⟩ := h
  refine n_putf (q := 5) (jj := 0) 2 12 0 rfl kX12_174 c1 (Or.inl rfl) ?_
  refine PW.nameF (fun F1 eF1 => ?_)
  replace h := h F1 eF1
  refine s_aload_n (q := 6) 3 0 rfl rfl ?_
  refine n_getf (q := 9) (jj := 8) 4 12 8 rfl kX12_180 c1 ?_
  refine PW.top (b := F x0 8) (by exact (congrFun (congrFun eF1 _) _).trans (pUp_k (by decide))) ?_
  refine s_if_ne (q := 12) (tgt := 19) 5 rfl rfl (fun hb => ?_) (fun hb => ?_)
  · skip
    have b2 := hb
    replace h := h.1 hb
    refine s_aload_n (q := 20) 10 0 rfl rfl ?_
    refine s_dup (q := 21) 11 rfl ?_
    refine n_getf (q := 24) (jj := 8) 12 12 8 rfl kX12_180 c1 ?_
    refine PW.top (b := F x0 8) (by exact (congrFun (congrFun eF1 _) _).trans (pUp_k (by decide))) ?_
    refine s_iconst (q := 25) 13 rfl ?_
    obtain ⟨c3, h⟩ := h
    refine n_isub (q := 26) 14 rfl c3 ?_
    refine n_putf (q := 29) (jj := 8) 15 12 8 rfl kX12_180 c1 (Or.inl rfl) ?_
    refine PW.nameF (fun F2 eF2 => ?_)
    replace h := h F2 eF2
    refine s_aload_n (q := 30) 16 0 rfl rfl ?_
    refine s_aload_n (q := 31) 17 0 rfl rfl ?_
    refine n_getf (q := 34) (jj := 8) 18 12 8 rfl kX12_180 c1 ?_
    refine PW.top (b := (F x0 8) - 1) (by exact (congrFun (congrFun eF2 _) _).trans pUp_s) ?_
    refine PW.pick [0] rfl ?_
    exact n_callV (N := mX12_putBack) (as := [(0, (F x0 8) - 1)]) (st := []) (q := 37) (d' := 0) 19 rfl uX12_putBack kX12_194 rfl c1 h
  · have hb := Classical.not_not.mp hb
    have b2 := hb
    replace h := h.2 hb
    refine s_aload_n (q := 13) 6 0 rfl rfl ?_
    refine s_bipush (q := 15) 7 rfl ?_
    refine PW.pick [] rfl ?_
    exact n_callV (N := mX12_tell) (as := [(0, (-3))]) (st := []) (q := 18) (d' := 0) 8 rfl uX12_tell kX12_190 rfl c1 h
theorem vX12_undo_18 {l : Launch} {G : pG} {bg : Nat × Nat} {n : Nat} {K : Int → Nat × Nat} {F E : Int → Int → Int} {Q : Option pV → pM → Prop} (s0 : Int) (h : Q (some (0, s0)) (n, K, F, E)) : PW l G 1 mX12_undo bg 18 [] [(0, s0)] (n, K, F, E) Q := by
  exact s_iret 9 rfl rfl h
theorem vX12_undo_37 {l : Launch} {G : pG} {bg : Nat × Nat} {n : Nat} {K : Int → Nat × Nat} {F E : Int → Int → Int} {Q : Option pV → pM → Prop} (x0 : Int) (h : (K x0).1 = 12 ∧ (K (F x0 7)).1 = 20 ∧ ((0 : Int) ≤ F x0 8 ∧ F x0 8 < ((K (F x0 7)).2 : Int)) ∧ PC l G 0 mX12_tell (0, 0) [(2, x0), (0, E (F x0 7) (F x0 8))] (n, K, F, E) (fun r μ => PW l G 1 mX12_undo bg 50 [] (r.toList ++ []) μ Q)) : PW l G 1 mX12_undo bg 37 [(0, (2, x0))] [] (n, K, F, E) Q := by
  refine s_aload_n (q := 38) 20 0 rfl rfl ?_
  refine s_aload_n (q := 39) 21 0 rfl rfl ?_
  obtain ⟨c1, h⟩ := h
  refine n_getf (q := 42) (jj := 7) 22 12 7 rfl kX12_26 c1 ?_
  refine s_aload_n (q := 43) 23 0 rfl rfl ?_
  refine n_getf (q := 46) (jj := 8) 24 12 8 rfl kX12_180 c1 ?_
  obtain ⟨c2, h⟩ := h
  obtain ⟨c3, h⟩ := h
  refine n_iald (q := 47) 25 rfl c2 c3 ?_
  refine PW.pick [] rfl ?_
  exact n_callV (N := mX12_tell) (as := [(0, E (F x0 7) (F x0 8))]) (st := []) (q := 50) (d' := 0) 26 rfl uX12_tell kX12_190 rfl c1 h
theorem vX12_undo_50 {l : Launch} {G : pG} {bg : Nat × Nat} {n : Nat} {K : Int → Nat × Nat} {F E : Int → Int → Int} {Q : Option pV → pM → Prop} (s0 : Int) (h : Q (some (0, s0)) (n, K, F, E)) : PW l G 1 mX12_undo bg 50 [] [(0, s0)] (n, K, F, E) Q := by
  exact s_iret 27 rfl rfl h
theorem vX12_image_0 {l : Launch} {G : pG} {bg : Nat × Nat} {n : Nat} {K : Int → Nat × Nat} {F E : Int → Int → Int} {Q : Option pV → pM → Prop} (x0 x1 : Int) (h : (K x0).1 = 12 ∧ (∀ F1, F1 = pUp F x0 0 0 → ((0 ≤ x1 ∧ x1 ≤ 1 → PW l G 1 mX12_image bg 23 [(0, (2, x0)), (1, (0, x1)), (2, (0, 0))] [] (n, K, F1, E) Q) ∧ (¬ (0 ≤ x1 ∧ x1 ≤ 1) → PC l G 0 mX12_tell (0, 0) [(2, x0), (0, (-1))] (n, K, F1, E) (fun r μ => PW l G 1 mX12_image bg 20 [] (r.toList ++ []) μ Q))))) : PW l G 1 mX12_image bg 0 [(0, (2, x0)), (1, (0, x1))] [] (n, K, F, E) Q := by
  refine s_aload_n (q := 1) 0 0 rfl rfl ?_
  refine s_iconst (q := 2) 1 rfl ?_
  obtain ⟨c1, h⟩ := h
  refine n_putf (q := 5) (jj := 0) 2 12 0 rfl kX12_174 c1 (Or.inl rfl) ?_
  refine PW.nameF (fun F1 eF1 => ?_)
  replace h := h F1 eF1
  refine s_iload_n (q := 6) 3 1 rfl rfl ?_
  refine s_i2l (q := 7) 4 rfl ?_
  refine s_lconst (q := 8) (x := 0) 5 rfl ?_
  refine s_lconst (q := 9) (x := 1) 6 rfl ?_
  refine n_callS (N := mX12_in) (as := [(1, x1), (1, 0), (1, 1)]) (st := []) (q := 12) (d' := 0) 7 rfl uX12_in kX12_197 rfl (pX12_in ?_)
  show PW l G 1 mX12_image bg 12 [(0, (2, x0)), (1, (0, x1))] [(0, bI (0 ≤ x1 ∧ x1 ≤ 1))] (n, K, F1, E) Q
  refine s_if_ne (q := 15) (tgt := 21) 8 rfl rfl (fun hb => ?_) (fun hb => ?_)
  · have hb := bI_t hb
    have b2 := hb
    replace h := h.1 hb
    refine s_iconst (q := 22) 13 rfl ?_
    refine s_istore_n (q := 23) (lv' := [(2, (0, 0)), (0, (2, x0)), (1, (0, x1))]) 14 rfl rfl ?_
    refine PW.pick [1, 2, 0] rfl ?_
    exact h
  · have hb := bI_f2 hb
    have b2 := hb
    replace h := h.2 hb
    refine s_aload_n (q := 16) 9 0 rfl rfl ?_
    refine s_iconst (q := 17) 10 rfl ?_
    refine PW.pick [] rfl ?_
    exact n_callV (N := mX12_tell) (as := [(0, (-1))]) (st := []) (q := 20) (d' := 0) 11 rfl uX12_tell kX12_190 rfl c1 h
theorem vX12_image_20 {l : Launch} {G : pG} {bg : Nat × Nat} {n : Nat} {K : Int → Nat × Nat} {F E : Int → Int → Int} {Q : Option pV → pM → Prop} (s0 : Int) (h : Q (some (0, s0)) (n, K, F, E)) : PW l G 1 mX12_image bg 20 [] [(0, s0)] (n, K, F, E) Q := by
  exact s_iret 12 rfl rfl h
theorem vX12_image_23 {l : Launch} {G : pG} {bg : Nat × Nat} {n : Nat} {K : Int → Nat × Nat} {F E : Int → Int → Int} {Q : Option pV → pM → Prop} (x0 x1 x2 : Int) (h : ((5535 ≤ x2 → (K x0).1 = 12 ∧ (0 : Int) ≤ F x0 5 ∧ (K (F x0 5)).1 = 23 ∧ ((0 : Int) ≤ x1 ∧ x1 < ((K (F x0 5)).2 : Int)) ∧ (∀ E1, E1 = pUp E (F x0 5) x1 1 → PC l G 0 mX12_tell (0, 0) [(2, x0), (0, 0)] (n, K, F, E1) (fun r μ => PW l G 1 mX12_image bg 66 [] (r.toList ++ []) μ Q))) ∧ (¬ (5535 ≤ x2) → (K x0).1 = 12 ∧ (-2147483648 ≤ 5535 * x1 ∧ 5535 * x1 < 2147483648) ∧ (-2147483648 ≤ (5535 * x1) + x2 ∧ (5535 * x1) + x2 < 2147483648) ∧ (K (F x0 3)).1 = 20 ∧ ((0 : Int) ≤ x2 ∧ x2 < ((K (F x0 3)).2 : Int)) ∧ (0 : Int) ≤ F x0 4 ∧ (K (F x0 4)).1 = 20 ∧ ((0 : Int) ≤ (5535 * x1) + x2 ∧ (5535 * x1) + x2 < ((K (F x0 4)).2 : Int)) ∧ (∀ E2, E2 = pUp E (F x0 4) ((5535 * x1) + x2) (E (F x0 3) x2) → (-2147483648 ≤ x2 + 1 ∧ x2 + 1 < 2147483648) ∧ PW l G 1 mX12_image bg 23 [(0, (2, x0)), (1, (0, x1)), (2, (0, x2 + 1))] [] (n, K, F, E2) Q)))) : PW l G 1 mX12_image bg 23 [(0, (2, x0)), (1, (0, x1)), (2, (0, x2))] [] (n, K, F, E) Q := by
  refine s_iload_n (q := 24) 15 2 rfl rfl ?_
  refine s_sipush (q := 27) 16 rfl ?_
  refine s_icmp_ge (q := 30) (tgt := 54) 17 rfl rfl (fun hb => ?_) (fun hb => ?_)
  · skip
    have b1 := hb
    replace h := h.1 hb
    refine s_aload_n (q := 55) 32 0 rfl rfl ?_
    obtain ⟨c2, h⟩ := h
    refine n_getf (q := 58) (jj := 5) 33 12 5 rfl kX12_19 c2 ?_
    refine s_iload_n (q := 59) 34 1 rfl rfl ?_
    refine s_iconst (q := 60) 35 rfl ?_
    obtain ⟨c3, h⟩ := h
    obtain ⟨c4, h⟩ := h
    obtain ⟨c5, h⟩ := h
    refine n_zast (q := 61) 36 rfl c3 c4 c5 (by decide) ?_
    refine PW.nameE (fun E1 eE1 => ?_)
    replace h := h E1 eE1
    refine s_aload_n (q := 62) 37 0 rfl rfl ?_
    refine s_iconst (q := 63) 38 rfl ?_
    refine PW.pick [] rfl ?_
    exact n_callV (N := mX12_tell) (as := [(0, 0)]) (st := []) (q := 66) (d' := 0) 39 rfl uX12_tell kX12_190 rfl c2 h
  · skip
    have b1 := hb
    replace h := h.2 hb
    refine s_aload_n (q := 31) 18 0 rfl rfl ?_
    obtain ⟨c6, h⟩ := h
    refine n_getf (q := 34) (jj := 4) 19 12 4 rfl kX12_16 c6 ?_
    refine s_sipush (q := 37) 20 rfl ?_
    refine s_iload_n (q := 38) 21 1 rfl rfl ?_
    obtain ⟨c7, h⟩ := h
    refine n_imul (q := 39) 22 rfl c7 ?_
    refine s_iload_n (q := 40) 23 2 rfl rfl ?_
    obtain ⟨c8, h⟩ := h
    refine n_iadd (q := 41) 24 rfl c8 ?_
    refine s_aload_n (q := 42) 25 0 rfl rfl ?_
    refine n_getf (q := 45) (jj := 3) 26 12 3 rfl kX12_13 c6 ?_
    refine s_iload_n (q := 46) 27 2 rfl rfl ?_
    obtain ⟨c9, h⟩ := h
    obtain ⟨c10, h⟩ := h
    refine n_iald (q := 47) 28 rfl c9 c10 ?_
    obtain ⟨c11, h⟩ := h
    obtain ⟨c12, h⟩ := h
    obtain ⟨c13, h⟩ := h
    refine n_iast (q := 48) 29 rfl c11 c12 c13 ?_
    refine PW.nameE (fun E2 eE2 => ?_)
    replace h := h E2 eE2
    obtain ⟨c14, h⟩ := h
    refine n_iinc (q := 51) (lv' := [(2, (0, x2 + 1)), (0, (2, x0)), (1, (0, x1))]) 30 2 rfl rfl c14 rfl ?_
    refine s_goto (tgt := 23) 31 rfl rfl ?_
    refine PW.pick [1, 2, 0] rfl ?_
    exact h
theorem vX12_image_66 {l : Launch} {G : pG} {bg : Nat × Nat} {n : Nat} {K : Int → Nat × Nat} {F E : Int → Int → Int} {Q : Option pV → pM → Prop} (s0 : Int) (h : Q (some (0, s0)) (n, K, F, E)) : PW l G 1 mX12_image bg 66 [] [(0, s0)] (n, K, F, E) Q := by
  exact s_iret 40 rfl rfl h
theorem vX12_back_0 {l : Launch} {G : pG} {bg : Nat × Nat} {n : Nat} {K : Int → Nat × Nat} {F E : Int → Int → Int} {Q : Option pV → pM → Prop} (x0 x1 : Int) (h : (K x0).1 = 12 ∧ (∀ F1, F1 = pUp F x0 0 0 → ((0 ≤ x1 ∧ x1 ≤ 1 → (0 : Int) ≤ F x0 5 ∧ (K (F x0 5)).1 = 23 ∧ ((0 : Int) ≤ x1 ∧ x1 < ((K (F x0 5)).2 : Int)) ∧ ((¬ (E (F x0 5) x1) = 0 → PW l G 1 mX12_back bg 39 [(0, (2, x0)), (1, (0, x1)), (2, (0, 0))] [] (n, K, F1, E) Q) ∧ ((E (F x0 5) x1) = 0 → PC l G 0 mX12_tell (0, 0) [(2, x0), (0, (-2))] (n, K, F1, E) (fun r μ => PW l G 1 mX12_back bg 36 [] (r.toList ++ []) μ Q)))) ∧ (¬ (0 ≤ x1 ∧ x1 ≤ 1) → PC l G 0 mX12_tell (0, 0) [(2, x0), (0, (-1))] (n, K, F1, E) (fun r μ => PW l G 1 mX12_back bg 20 [] (r.toList ++ []) μ Q))))) : PW l G 1 mX12_back bg 0 [(0, (2, x0)), (1, (0, x1))] [] (n, K, F, E) Q := by
  refine s_aload_n (q := 1) 0 0 rfl rfl ?_
  refine s_iconst (q := 2) 1 rfl ?_
  obtain ⟨c1, h⟩ := h
  refine n_putf (q := 5) (jj := 0) 2 12 0 rfl kX12_174 c1 (Or.inl rfl) ?_
  refine PW.nameF (fun F1 eF1 => ?_)
  replace h := h F1 eF1
  refine s_iload_n (q := 6) 3 1 rfl rfl ?_
  refine s_i2l (q := 7) 4 rfl ?_
  refine s_lconst (q := 8) (x := 0) 5 rfl ?_
  refine s_lconst (q := 9) (x := 1) 6 rfl ?_
  refine n_callS (N := mX12_in) (as := [(1, x1), (1, 0), (1, 1)]) (st := []) (q := 12) (d' := 0) 7 rfl uX12_in kX12_197 rfl (pX12_in ?_)
  show PW l G 1 mX12_back bg 12 [(0, (2, x0)), (1, (0, x1))] [(0, bI (0 ≤ x1 ∧ x1 ≤ 1))] (n, K, F1, E) Q
  refine s_if_ne (q := 15) (tgt := 21) 8 rfl rfl (fun hb => ?_) (fun hb => ?_)
  · have hb := bI_t hb
    have b2 := hb
    replace h := h.1 hb
    refine s_aload_n (q := 22) 13 0 rfl rfl ?_
    refine n_getf (q := 25) (jj := 5) 14 12 5 rfl kX12_19 c1 ?_
    refine PW.top (b := F x0 5) (by exact (congrFun (congrFun eF1 _) _).trans (pUp_k (by decide))) ?_
    refine s_iload_n (q := 26) 15 1 rfl rfl ?_
    obtain ⟨c3, h⟩ := h
    obtain ⟨c4, h⟩ := h
    obtain ⟨c5, h⟩ := h
    refine n_bald (q := 27) 16 3 rfl c3 c4 c5 ?_
    refine s_if_ne (q := 30) (tgt := 37) 17 rfl rfl (fun hb => ?_) (fun hb => ?_)
    · skip
      have b6 := hb
      replace h := h.1 hb
      refine s_iconst (q := 38) 22 rfl ?_
      refine s_istore_n (q := 39) (lv' := [(2, (0, 0)), (0, (2, x0)), (1, (0, x1))]) 23 rfl rfl ?_
      refine PW.pick [1, 2, 0] rfl ?_
      exact h
    · have hb := Classical.not_not.mp hb
      have b6 := hb
      replace h := h.2 hb
      refine s_aload_n (q := 31) 18 0 rfl rfl ?_
      refine s_bipush (q := 33) 19 rfl ?_
      refine PW.pick [] rfl ?_
      exact n_callV (N := mX12_tell) (as := [(0, (-2))]) (st := []) (q := 36) (d' := 0) 20 rfl uX12_tell kX12_190 rfl c1 h
  · have hb := bI_f2 hb
    have b2 := hb
    replace h := h.2 hb
    refine s_aload_n (q := 16) 9 0 rfl rfl ?_
    refine s_iconst (q := 17) 10 rfl ?_
    refine PW.pick [] rfl ?_
    exact n_callV (N := mX12_tell) (as := [(0, (-1))]) (st := []) (q := 20) (d' := 0) 11 rfl uX12_tell kX12_190 rfl c1 h
theorem vX12_back_20 {l : Launch} {G : pG} {bg : Nat × Nat} {n : Nat} {K : Int → Nat × Nat} {F E : Int → Int → Int} {Q : Option pV → pM → Prop} (s0 : Int) (h : Q (some (0, s0)) (n, K, F, E)) : PW l G 1 mX12_back bg 20 [] [(0, s0)] (n, K, F, E) Q := by
  exact s_iret 12 rfl rfl h
theorem vX12_back_36 {l : Launch} {G : pG} {bg : Nat × Nat} {n : Nat} {K : Int → Nat × Nat} {F E : Int → Int → Int} {Q : Option pV → pM → Prop} (s0 : Int) (h : Q (some (0, s0)) (n, K, F, E)) : PW l G 1 mX12_back bg 36 [] [(0, s0)] (n, K, F, E) Q := by
  exact s_iret 21 rfl rfl h
theorem vX12_back_39 {l : Launch} {G : pG} {bg : Nat × Nat} {n : Nat} {K : Int → Nat × Nat} {F E : Int → Int → Int} {Q : Option pV → pM → Prop} (x0 x1 x2 : Int) (h : ((5535 ≤ x2 → (K x0).1 = 12 ∧ (∀ F1, F1 = pUp F x0 8 0 → PC l G 0 mX12_tell (0, 0) [(2, x0), (0, 0)] (n, K, F1, E) (fun r μ => PW l G 1 mX12_back bg 80 [] (r.toList ++ []) μ Q))) ∧ (¬ (5535 ≤ x2) → (K x0).1 = 12 ∧ (-2147483648 ≤ 5535 * x1 ∧ 5535 * x1 < 2147483648) ∧ (-2147483648 ≤ (5535 * x1) + x2 ∧ (5535 * x1) + x2 < 2147483648) ∧ (K (F x0 4)).1 = 20 ∧ ((0 : Int) ≤ (5535 * x1) + x2 ∧ (5535 * x1) + x2 < ((K (F x0 4)).2 : Int)) ∧ (0 : Int) ≤ F x0 3 ∧ (K (F x0 3)).1 = 20 ∧ ((0 : Int) ≤ x2 ∧ x2 < ((K (F x0 3)).2 : Int)) ∧ (∀ E2, E2 = pUp E (F x0 3) x2 (E (F x0 4) ((5535 * x1) + x2)) → (-2147483648 ≤ x2 + 1 ∧ x2 + 1 < 2147483648) ∧ PW l G 1 mX12_back bg 39 [(0, (2, x0)), (1, (0, x1)), (2, (0, x2 + 1))] [] (n, K, F, E2) Q)))) : PW l G 1 mX12_back bg 39 [(0, (2, x0)), (1, (0, x1)), (2, (0, x2))] [] (n, K, F, E) Q := by
  refine s_iload_n (q := 40) 24 2 rfl rfl ?_
  refine s_sipush (q := 43) 25 rfl ?_
  refine s_icmp_ge (q := 46) (tgt := 70) 26 rfl rfl (fun hb => ?_) (fun hb => ?_)
  · skip
    have b1 := hb
    replace h := h.1 hb
    refine s_aload_n (q := 71) 41 0 rfl rfl ?_
    refine s_iconst (q := 72) 42 rfl ?_
    obtain ⟨c2, h⟩ := h
    refine n_putf (q := 75) (jj := 8) 43 12 8 rfl kX12_180 c2 (Or.inl rfl) ?_
    refine PW.nameF (fun F1 eF1 => ?_)
    replace h := h F1 eF1
    refine s_aload_n (q := 76) 44 0 rfl rfl ?_
    refine s_iconst (q := 77) 45 rfl ?_
    refine PW.pick [] rfl ?_
    exact n_callV (N := mX12_tell) (as := [(0, 0)]) (st := []) (q := 80) (d' := 0) 46 rfl uX12_tell kX12_190 rfl c2 h
  · skip
    have b1 := hb
    replace h := h.2 hb
    refine s_aload_n (q := 47) 27 0 rfl rfl ?_
    obtain ⟨c3, h⟩ := h
    refine n_getf (q := 50) (jj := 3) 28 12 3 rfl kX12_13 c3 ?_
    refine s_iload_n (q := 51) 29 2 rfl rfl ?_
    refine s_aload_n (q := 52) 30 0 rfl rfl ?_
    refine n_getf (q := 55) (jj := 4) 31 12 4 rfl kX12_16 c3 ?_
    refine s_sipush (q := 58) 32 rfl ?_
    refine s_iload_n (q := 59) 33 1 rfl rfl ?_
    obtain ⟨c4, h⟩ := h
    refine n_imul (q := 60) 34 rfl c4 ?_
    refine s_iload_n (q := 61) 35 2 rfl rfl ?_
    obtain ⟨c5, h⟩ := h
    refine n_iadd (q := 62) 36 rfl c5 ?_
    obtain ⟨c6, h⟩ := h
    obtain ⟨c7, h⟩ := h
    refine n_iald (q := 63) 37 rfl c6 c7 ?_
    obtain ⟨c8, h⟩ := h
    obtain ⟨c9, h⟩ := h
    obtain ⟨c10, h⟩ := h
    refine n_iast (q := 64) 38 rfl c8 c9 c10 ?_
    refine PW.nameE (fun E2 eE2 => ?_)
    replace h := h E2 eE2
    obtain ⟨c11, h⟩ := h
    refine n_iinc (q := 67) (lv' := [(2, (0, x2 + 1)), (0, (2, x0)), (1, (0, x1))]) 39 2 rfl rfl c11 rfl ?_
    refine s_goto (tgt := 39) 40 rfl rfl ?_
    refine PW.pick [1, 2, 0] rfl ?_
    exact h
theorem vX12_back_80 {l : Launch} {G : pG} {bg : Nat × Nat} {n : Nat} {K : Int → Nat × Nat} {F E : Int → Int → Int} {Q : Option pV → pM → Prop} (s0 : Int) (h : Q (some (0, s0)) (n, K, F, E)) : PW l G 1 mX12_back bg 80 [] [(0, s0)] (n, K, F, E) Q := by
  exact s_iret 47 rfl rfl h
theorem vX12_newOperator_0 {l : Launch} {G : pG} {bg : Nat × Nat} {n : Nat} {K : Int → Nat × Nat} {F E : Int → Int → Int} {Q : Option pV → pM → Prop} (x0 x1 x2 x3 x4 x5 x6 : Int) (h : ((¬ x1 = 0 → (K x0).1 = 12 ∧ (K (F x0 3)).1 = 20 ∧ ((0 : Int) ≤ 6 ∧ 6 < ((K (F x0 3)).2 : Int)) ∧ ((¬ (E (F x0 3) 6) = 4 → PC l G 1 mX12_remember (0, 0) [(2, x0), (0, 1)] (n, K, F, E) (fun r μ => PW l G 2 mX12_newOperator bg 29 [(0, (2, x0)), (2, (0, x2)), (3, (0, x3)), (4, (0, x4)), (5, (0, x5)), (6, (0, x6)), (7, (0, E (F x0 3) 6))] (r.toList ++ []) μ Q)) ∧ ((E (F x0 3) 6) = 4 → Q (some (0, (-5))) (n, K, F, E)))) ∧ (x1 = 0 → Q (some (0, (-1))) (n, K, F, E)))) : PW l G 2 mX12_newOperator bg 0 [(0, (2, x0)), (1, (0, x1)), (2, (0, x2)), (3, (0, x3)), (4, (0, x4)), (5, (0, x5)), (6, (0, x6))] [] (n, K, F, E) Q := by
  refine s_iload_n (q := 1) 0 1 rfl rfl ?_
  refine s_if_ne (q := 4) (tgt := 6) 1 rfl rfl (fun hb => ?_) (fun hb => ?_)
  · skip
    have b1 := hb
    replace h := h.1 hb
    refine s_aload_n (q := 7) 4 0 rfl rfl ?_
    obtain ⟨c2, h⟩ := h
    refine n_getf (q := 10) (jj := 3) 5 12 3 rfl kX12_13 c2 ?_
    refine s_bipush (q := 12) 6 rfl ?_
    obtain ⟨c3, h⟩ := h
    obtain ⟨c4, h⟩ := h
    refine n_iald (q := 13) 7 rfl c3 c4 ?_
    refine s_istore (q := 15) (lv' := [(7, (0, E (F x0 3) 6)), (0, (2, x0)), (1, (0, x1)), (2, (0, x2)), (3, (0, x3)), (4, (0, x4)), (5, (0, x5)), (6, (0, x6))]) 8 rfl rfl ?_
    refine s_iload (q := 17) 9 0 rfl rfl ?_
    refine s_iconst (q := 18) 10 rfl ?_
    refine s_icmp_ne (q := 21) (tgt := 24) 11 rfl rfl (fun hb => ?_) (fun hb => ?_)
    · skip
      have b5 := hb
      replace h := h.1 hb
      refine s_aload_n (q := 25) 14 1 rfl rfl ?_
      refine s_iconst (q := 26) 15 rfl ?_
      refine PW.pick [1, 3, 4, 5, 6, 7, 0] rfl ?_
      exact n_callV (N := mX12_remember) (as := [(0, 1)]) (st := []) (q := 29) (d' := 1) 16 rfl uX12_remember kX12_207 rfl c2 h
    · have hb := Classical.not_not.mp hb
      have b5 := hb
      replace h := h.2 hb
      refine s_bipush (q := 23) 12 rfl ?_
      exact s_iret 13 rfl rfl h
  · have hb := Classical.not_not.mp hb
    have b1 := hb
    replace h := h.2 hb
    refine s_iconst (q := 5) 2 rfl ?_
    exact s_iret 3 rfl rfl h
theorem vX12_newOperator_29 {l : Launch} {G : pG} {bg : Nat × Nat} {n : Nat} {K : Int → Nat × Nat} {F E : Int → Int → Int} {Q : Option pV → pM → Prop} (x0 x2 x3 x4 x5 x6 x7 : Int) (h : (-2147483648 ≤ 6 * x7 ∧ 6 * x7 < 2147483648) ∧ (-2147483648 ≤ 18 + (6 * x7) ∧ 18 + (6 * x7) < 2147483648) ∧ (K x0).1 = 12 ∧ (-2147483648 ≤ (18 + (6 * x7)) + 0 ∧ (18 + (6 * x7)) + 0 < 2147483648) ∧ (0 : Int) ≤ F x0 3 ∧ (K (F x0 3)).1 = 20 ∧ ((0 : Int) ≤ (18 + (6 * x7)) + 0 ∧ (18 + (6 * x7)) + 0 < ((K (F x0 3)).2 : Int)) ∧ (∀ E1, E1 = pUp E (F x0 3) ((18 + (6 * x7)) + 0) x2 → (-2147483648 ≤ (18 + (6 * x7)) + 1 ∧ (18 + (6 * x7)) + 1 < 2147483648) ∧ ((0 : Int) ≤ (18 + (6 * x7)) + 1 ∧ (18 + (6 * x7)) + 1 < ((K (F x0 3)).2 : Int)) ∧ (∀ E2, E2 = pUp E1 (F x0 3) ((18 + (6 * x7)) + 1) x3 → (-2147483648 ≤ (18 + (6 * x7)) + 2 ∧ (18 + (6 * x7)) + 2 < 2147483648) ∧ ((0 : Int) ≤ (18 + (6 * x7)) + 2 ∧ (18 + (6 * x7)) + 2 < ((K (F x0 3)).2 : Int)) ∧ (∀ E3, E3 = pUp E2 (F x0 3) ((18 + (6 * x7)) + 2) x4 → (-2147483648 ≤ (18 + (6 * x7)) + 3 ∧ (18 + (6 * x7)) + 3 < 2147483648) ∧ ((0 : Int) ≤ (18 + (6 * x7)) + 3 ∧ (18 + (6 * x7)) + 3 < ((K (F x0 3)).2 : Int)) ∧ (∀ E4, E4 = pUp E3 (F x0 3) ((18 + (6 * x7)) + 3) x5 → (-2147483648 ≤ (18 + (6 * x7)) + 4 ∧ (18 + (6 * x7)) + 4 < 2147483648) ∧ ((0 : Int) ≤ (18 + (6 * x7)) + 4 ∧ (18 + (6 * x7)) + 4 < ((K (F x0 3)).2 : Int)) ∧ (∀ E5, E5 = pUp E4 (F x0 3) ((18 + (6 * x7)) + 4) x6 → (-2147483648 ≤ (18 + (6 * x7)) + 5 ∧ (18 + (6 * x7)) + 5 < 2147483648) ∧ ((0 : Int) ≤ (18 + (6 * x7)) + 5 ∧ (18 + (6 * x7)) + 5 < ((K (F x0 3)).2 : Int)) ∧ (∀ E6, E6 = pUp E5 (F x0 3) ((18 + (6 * x7)) + 5) 0 → ((0 : Int) ≤ 6 ∧ 6 < ((K (F x0 3)).2 : Int)) ∧ (-2147483648 ≤ (E6 (F x0 3) 6) + 1 ∧ (E6 (F x0 3) 6) + 1 < 2147483648) ∧ (∀ E7, E7 = pUp E6 (F x0 3) 6 ((E6 (F x0 3) 6) + 1) → Q (some (0, x7)) (n, K, F, E7))))))))) : PW l G 2 mX12_newOperator bg 29 [(0, (2, x0)), (2, (0, x2)), (3, (0, x3)), (4, (0, x4)), (5, (0, x5)), (6, (0, x6)), (7, (0, x7))] [] (n, K, F, E) Q := by
  refine s_iload (q := 31) 17 6 rfl rfl ?_
  refine n_callS (N := mX12_operatorAt) (as := [(0, x7)]) (st := []) (q := 34) (d' := 0) 18 rfl uX12_operatorAt kX12_210 rfl ?_
  show PW l G 0 mX12_operatorAt (0, 0) 0 [(0, (0, x7))] [] (n, K, F, E) _
  refine s_bipush (q := 2) 0 rfl ?_
  refine s_bipush (q := 4) 1 rfl ?_
  refine s_iload_n (q := 5) 2 0 rfl rfl ?_
  obtain ⟨c1, h⟩ := h
  refine n_imul (q := 6) 3 rfl c1 ?_
  obtain ⟨c2, h⟩ := h
  refine n_iadd (q := 7) 4 rfl c2 ?_
  refine s_iret 5 rfl rfl ?_
  show PW l G 2 mX12_newOperator bg 34 [(0, (2, x0)), (2, (0, x2)), (3, (0, x3)), (4, (0, x4)), (5, (0, x5)), (6, (0, x6)), (7, (0, x7))] [(0, 18 + (6 * x7))] (n, K, F, E) Q
  refine s_istore (q := 36) (lv' := [(8, (0, 18 + (6 * x7))), (0, (2, x0)), (2, (0, x2)), (3, (0, x3)), (4, (0, x4)), (5, (0, x5)), (6, (0, x6)), (7, (0, x7))]) 19 rfl rfl ?_
  refine s_aload_n (q := 37) 20 1 rfl rfl ?_
  obtain ⟨c3, h⟩ := h
  refine n_getf (q := 40) (jj := 3) 21 12 3 rfl kX12_13 c3 ?_
  refine s_iload (q := 42) 22 0 rfl rfl ?_
  refine s_iconst (q := 43) 23 rfl ?_
  obtain ⟨c4, h⟩ := h
  refine n_iadd (q := 44) 24 rfl c4 ?_
  refine s_iload_n (q := 45) 25 2 rfl rfl ?_
  obtain ⟨c5, h⟩ := h
  obtain ⟨c6, h⟩ := h
  obtain ⟨c7, h⟩ := h
  refine n_iast (q := 46) 26 rfl c5 c6 c7 ?_
  refine PW.nameE (fun E1 eE1 => ?_)
  replace h := h E1 eE1
  refine s_aload_n (q := 47) 27 1 rfl rfl ?_
  refine n_getf (q := 50) (jj := 3) 28 12 3 rfl kX12_13 c3 ?_
  refine s_iload (q := 52) 29 0 rfl rfl ?_
  refine s_iconst (q := 53) 30 rfl ?_
  obtain ⟨c8, h⟩ := h
  refine n_iadd (q := 54) 31 rfl c8 ?_
  refine s_iload_n (q := 55) 32 3 rfl rfl ?_
  obtain ⟨c9, h⟩ := h
  refine n_iast (q := 56) 33 rfl c5 c6 c9 ?_
  refine PW.nameE (fun E2 eE2 => ?_)
  replace h := h E2 eE2
  refine s_aload_n (q := 57) 34 1 rfl rfl ?_
  refine n_getf (q := 60) (jj := 3) 35 12 3 rfl kX12_13 c3 ?_
  refine s_iload (q := 62) 36 0 rfl rfl ?_
  refine s_iconst (q := 63) 37 rfl ?_
  obtain ⟨c10, h⟩ := h
  refine n_iadd (q := 64) 38 rfl c10 ?_
  refine s_iload (q := 66) 39 4 rfl rfl ?_
  obtain ⟨c11, h⟩ := h
  refine n_iast (q := 67) 40 rfl c5 c6 c11 ?_
  refine PW.nameE (fun E3 eE3 => ?_)
  replace h := h E3 eE3
  refine s_aload_n (q := 68) 41 1 rfl rfl ?_
  refine n_getf (q := 71) (jj := 3) 42 12 3 rfl kX12_13 c3 ?_
  refine s_iload (q := 73) 43 0 rfl rfl ?_
  refine s_iconst (q := 74) 44 rfl ?_
  obtain ⟨c12, h⟩ := h
  refine n_iadd (q := 75) 45 rfl c12 ?_
  refine s_iload (q := 77) 46 5 rfl rfl ?_
  obtain ⟨c13, h⟩ := h
  refine n_iast (q := 78) 47 rfl c5 c6 c13 ?_
  refine PW.nameE (fun E4 eE4 => ?_)
  replace h := h E4 eE4
  refine s_aload_n (q := 79) 48 1 rfl rfl ?_
  refine n_getf (q := 82) (jj := 3) 49 12 3 rfl kX12_13 c3 ?_
  refine s_iload (q := 84) 50 0 rfl rfl ?_
  refine s_iconst (q := 85) 51 rfl ?_
  obtain ⟨c14, h⟩ := h
  refine n_iadd (q := 86) 52 rfl c14 ?_
  refine s_iload (q := 88) 53 6 rfl rfl ?_
  obtain ⟨c15, h⟩ := h
  refine n_iast (q := 89) 54 rfl c5 c6 c15 ?_
  refine PW.nameE (fun E5 eE5 => ?_)
  replace h := h E5 eE5
  refine s_aload_n (q := 90) 55 1 rfl rfl ?_
  refine n_getf (q := 93) (jj := 3) 56 12 3 rfl kX12_13 c3 ?_
  refine s_iload (q := 95) 57 0 rfl rfl ?_
  refine s_iconst (q := 96) 58 rfl ?_
  obtain ⟨c16, h⟩ := h
  refine n_iadd (q := 97) 59 rfl c16 ?_
  refine s_iconst (q := 98) 60 rfl ?_
  obtain ⟨c17, h⟩ := h
  refine n_iast (q := 99) 61 rfl c5 c6 c17 ?_
  refine PW.nameE (fun E6 eE6 => ?_)
  replace h := h E6 eE6
  refine s_aload_n (q := 100) 62 1 rfl rfl ?_
  refine n_getf (q := 103) (jj := 3) 63 12 3 rfl kX12_13 c3 ?_
  refine s_bipush (q := 105) 64 rfl ?_
  refine s_dup2 (q := 106) 65 rfl ?_
  obtain ⟨c18, h⟩ := h
  refine n_iald (q := 107) 66 rfl c6 c18 ?_
  refine s_iconst (q := 108) 67 rfl ?_
  obtain ⟨c19, h⟩ := h
  refine n_iadd (q := 109) 68 rfl c19 ?_
  refine n_iast (q := 110) 69 rfl c5 c6 c18 ?_
  refine PW.nameE (fun E7 eE7 => ?_)
  replace h := h E7 eE7
  refine s_iload (q := 112) 70 7 rfl rfl ?_
  exact s_iret 71 rfl rfl h
theorem vX12_join_0 {l : Launch} {G : pG} {bg : Nat × Nat} {n : Nat} {K : Int → Nat × Nat} {F E : Int → Int → Int} {Q : Option pV → pM → Prop} (x0 x1 x2 x3 x4 : Int) (h : (K x0).1 = 12 ∧ (∀ F1, F1 = pUp F x0 0 0 → ((¬ (0 ≤ x1 ∧ x1 < 3) → PC l G 2 mX12_newOperator (0, 0) [(2, x0), (0, 0), (0, 0), (0, x1), (0, x2), (0, x3), (0, x4)] (n, K, F1, E) (fun r μ => PW l G 3 mX12_join bg 55 [] (r.toList ++ [(2, x0)]) μ Q)) ∧ (0 ≤ x1 ∧ x1 < 3 → ((¬ (0 ≤ x2 ∧ x2 < 2) → PC l G 2 mX12_newOperator (0, 0) [(2, x0), (0, 0), (0, 0), (0, x1), (0, x2), (0, x3), (0, x4)] (n, K, F1, E) (fun r μ => PW l G 3 mX12_join bg 55 [] (r.toList ++ [(2, x0)]) μ Q)) ∧ (0 ≤ x2 ∧ x2 < 2 → ((¬ (0 ≤ x3 ∧ x3 < 3) → PC l G 2 mX12_newOperator (0, 0) [(2, x0), (0, 0), (0, 0), (0, x1), (0, x2), (0, x3), (0, x4)] (n, K, F1, E) (fun r μ => PW l G 3 mX12_join bg 55 [] (r.toList ++ [(2, x0)]) μ Q)) ∧ (0 ≤ x3 ∧ x3 < 3 → ((¬ (0 ≤ x4 ∧ x4 < 2) → PC l G 2 mX12_newOperator (0, 0) [(2, x0), (0, 0), (0, 0), (0, x1), (0, x2), (0, x3), (0, x4)] (n, K, F1, E) (fun r μ => PW l G 3 mX12_join bg 55 [] (r.toList ++ [(2, x0)]) μ Q)) ∧ (0 ≤ x4 ∧ x4 < 2 → ((x1 = x3 → PC l G 2 mX12_newOperator (0, 0) [(2, x0), (0, 0), (0, 0), (0, x1), (0, x2), (0, x3), (0, x4)] (n, K, F1, E) (fun r μ => PW l G 3 mX12_join bg 55 [] (r.toList ++ [(2, x0)]) μ Q)) ∧ (¬ (x1 = x3) → PC l G 2 mX12_newOperator (0, 0) [(2, x0), (0, 1), (0, 0), (0, x1), (0, x2), (0, x3), (0, x4)] (n, K, F1, E) (fun r μ => PW l G 3 mX12_join bg 55 [] (r.toList ++ [(2, x0)]) μ Q))))))))))))) : PW l G 3 mX12_join bg 0 [(0, (2, x0)), (1, (0, x1)), (2, (0, x2)), (3, (0, x3)), (4, (0, x4))] [] (n, K, F, E) Q := by
  refine s_aload_n (q := 1) 0 0 rfl rfl ?_
  refine s_iconst (q := 2) 1 rfl ?_
  obtain ⟨c1, h⟩ := h
  refine n_putf (q := 5) (jj := 0) 2 12 0 rfl kX12_174 c1 (Or.inl rfl) ?_
  refine PW.nameF (fun F1 eF1 => ?_)
  replace h := h F1 eF1
  refine s_aload_n (q := 6) 3 0 rfl rfl ?_
  refine s_aload_n (q := 7) 4 0 rfl rfl ?_
  refine s_iload_n (q := 8) 5 1 rfl rfl ?_
  refine n_callS (N := mX12_isRelation) (as := [(0, x1)]) (st := [(2, x0), (2, x0)]) (q := 11) (d' := 1) 6 rfl uX12_isRelation kX12_201 rfl (pX12_isRelation ?_)
  show PW l G 3 mX12_join bg 11 [(0, (2, x0)), (1, (0, x1)), (2, (0, x2)), (3, (0, x3)), (4, (0, x4))] [(0, bI (0 ≤ x1 ∧ x1 < 3)), (2, x0), (2, x0)] (n, K, F1, E) Q
  refine s_if_eq (q := 14) (tgt := 45) 7 rfl rfl (fun hb => ?_) (fun hb => ?_)
  · have hb := bI_f hb
    have b2 := hb
    replace h := h.1 hb
    refine s_iconst (q := 46) 22 rfl ?_
    refine s_iconst (q := 47) 23 rfl ?_
    refine s_iload_n (q := 48) 24 1 rfl rfl ?_
    refine s_iload_n (q := 49) 25 2 rfl rfl ?_
    refine s_iload_n (q := 50) 26 3 rfl rfl ?_
    refine s_iload (q := 52) 27 4 rfl rfl ?_
    refine PW.pick [] rfl ?_
    exact n_callV (N := mX12_newOperator) (as := [(0, 0), (0, 0), (0, x1), (0, x2), (0, x3), (0, x4)]) (st := [(2, x0)]) (q := 55) (d' := 2) 28 rfl uX12_newOperator kX12_216 rfl c1 h
  · have hb := bI_t hb
    have b2 := hb
    replace h := h.2 hb
    refine s_iload_n (q := 15) 8 2 rfl rfl ?_
    refine n_callS (N := mX12_isField) (as := [(0, x2)]) (st := [(2, x0), (2, x0)]) (q := 18) (d' := 1) 9 rfl uX12_isField kX12_213 rfl (pX12_isField ?_)
    show PW l G 3 mX12_join bg 18 [(0, (2, x0)), (1, (0, x1)), (2, (0, x2)), (3, (0, x3)), (4, (0, x4))] [(0, bI (0 ≤ x2 ∧ x2 < 2)), (2, x0), (2, x0)] (n, K, F1, E) Q
    refine s_if_eq (q := 21) (tgt := 45) 10 rfl rfl (fun hb => ?_) (fun hb => ?_)
    · have hb := bI_f hb
      have b3 := hb
      replace h := h.1 hb
      refine s_iconst (q := 46) 22 rfl ?_
      refine s_iconst (q := 47) 23 rfl ?_
      refine s_iload_n (q := 48) 24 1 rfl rfl ?_
      refine s_iload_n (q := 49) 25 2 rfl rfl ?_
      refine s_iload_n (q := 50) 26 3 rfl rfl ?_
      refine s_iload (q := 52) 27 4 rfl rfl ?_
      refine PW.pick [] rfl ?_
      exact n_callV (N := mX12_newOperator) (as := [(0, 0), (0, 0), (0, x1), (0, x2), (0, x3), (0, x4)]) (st := [(2, x0)]) (q := 55) (d' := 2) 28 rfl uX12_newOperator kX12_216 rfl c1 h
    · have hb := bI_t hb
      have b3 := hb
      replace h := h.2 hb
      refine s_iload_n (q := 22) 11 3 rfl rfl ?_
      refine n_callS (N := mX12_isRelation) (as := [(0, x3)]) (st := [(2, x0), (2, x0)]) (q := 25) (d' := 1) 12 rfl uX12_isRelation kX12_201 rfl (pX12_isRelation ?_)
      show PW l G 3 mX12_join bg 25 [(0, (2, x0)), (1, (0, x1)), (2, (0, x2)), (3, (0, x3)), (4, (0, x4))] [(0, bI (0 ≤ x3 ∧ x3 < 3)), (2, x0), (2, x0)] (n, K, F1, E) Q
      refine s_if_eq (q := 28) (tgt := 45) 13 rfl rfl (fun hb => ?_) (fun hb => ?_)
      · have hb := bI_f hb
        have b4 := hb
        replace h := h.1 hb
        refine s_iconst (q := 46) 22 rfl ?_
        refine s_iconst (q := 47) 23 rfl ?_
        refine s_iload_n (q := 48) 24 1 rfl rfl ?_
        refine s_iload_n (q := 49) 25 2 rfl rfl ?_
        refine s_iload_n (q := 50) 26 3 rfl rfl ?_
        refine s_iload (q := 52) 27 4 rfl rfl ?_
        refine PW.pick [] rfl ?_
        exact n_callV (N := mX12_newOperator) (as := [(0, 0), (0, 0), (0, x1), (0, x2), (0, x3), (0, x4)]) (st := [(2, x0)]) (q := 55) (d' := 2) 28 rfl uX12_newOperator kX12_216 rfl c1 h
      · have hb := bI_t hb
        have b4 := hb
        replace h := h.2 hb
        refine s_iload (q := 30) 14 4 rfl rfl ?_
        refine n_callS (N := mX12_isField) (as := [(0, x4)]) (st := [(2, x0), (2, x0)]) (q := 33) (d' := 1) 15 rfl uX12_isField kX12_213 rfl (pX12_isField ?_)
        show PW l G 3 mX12_join bg 33 [(0, (2, x0)), (1, (0, x1)), (2, (0, x2)), (3, (0, x3)), (4, (0, x4))] [(0, bI (0 ≤ x4 ∧ x4 < 2)), (2, x0), (2, x0)] (n, K, F1, E) Q
        refine s_if_eq (q := 36) (tgt := 45) 16 rfl rfl (fun hb => ?_) (fun hb => ?_)
        · have hb := bI_f hb
          have b5 := hb
          replace h := h.1 hb
          refine s_iconst (q := 46) 22 rfl ?_
          refine s_iconst (q := 47) 23 rfl ?_
          refine s_iload_n (q := 48) 24 1 rfl rfl ?_
          refine s_iload_n (q := 49) 25 2 rfl rfl ?_
          refine s_iload_n (q := 50) 26 3 rfl rfl ?_
          refine s_iload (q := 52) 27 4 rfl rfl ?_
          refine PW.pick [] rfl ?_
          exact n_callV (N := mX12_newOperator) (as := [(0, 0), (0, 0), (0, x1), (0, x2), (0, x3), (0, x4)]) (st := [(2, x0)]) (q := 55) (d' := 2) 28 rfl uX12_newOperator kX12_216 rfl c1 h
        · have hb := bI_t hb
          have b5 := hb
          replace h := h.2 hb
          refine s_iload_n (q := 37) 17 1 rfl rfl ?_
          refine s_iload_n (q := 38) 18 3 rfl rfl ?_
          refine s_icmp_eq (q := 41) (tgt := 45) 19 rfl rfl (fun hb => ?_) (fun hb => ?_)
          · skip
            have b6 := hb
            replace h := h.1 hb
            refine s_iconst (q := 46) 22 rfl ?_
            refine s_iconst (q := 47) 23 rfl ?_
            refine s_iload_n (q := 48) 24 1 rfl rfl ?_
            refine s_iload_n (q := 49) 25 2 rfl rfl ?_
            refine s_iload_n (q := 50) 26 3 rfl rfl ?_
            refine s_iload (q := 52) 27 4 rfl rfl ?_
            refine PW.pick [] rfl ?_
            exact n_callV (N := mX12_newOperator) (as := [(0, 0), (0, 0), (0, x1), (0, x2), (0, x3), (0, x4)]) (st := [(2, x0)]) (q := 55) (d' := 2) 28 rfl uX12_newOperator kX12_216 rfl c1 h
          · skip
            have b6 := hb
            replace h := h.2 hb
            refine s_iconst (q := 42) 20 rfl ?_
            refine s_goto (tgt := 46) 21 rfl rfl ?_
            refine s_iconst (q := 47) 23 rfl ?_
            refine s_iload_n (q := 48) 24 1 rfl rfl ?_
            refine s_iload_n (q := 49) 25 2 rfl rfl ?_
            refine s_iload_n (q := 50) 26 3 rfl rfl ?_
            refine s_iload (q := 52) 27 4 rfl rfl ?_
            refine PW.pick [] rfl ?_
            exact n_callV (N := mX12_newOperator) (as := [(0, 1), (0, 0), (0, x1), (0, x2), (0, x3), (0, x4)]) (st := [(2, x0)]) (q := 55) (d' := 2) 28 rfl uX12_newOperator kX12_216 rfl c1 h
theorem vX12_join_55 {l : Launch} {G : pG} {bg : Nat × Nat} {n : Nat} {K : Int → Nat × Nat} {F E : Int → Int → Int} {Q : Option pV → pM → Prop} (s0 s1 : Int) (h : (K s1).1 = 12 ∧ PC l G 0 mX12_tell (0, 0) [(2, s1), (0, s0)] (n, K, F, E) (fun r μ => PW l G 3 mX12_join bg 58 [] (r.toList ++ []) μ Q)) : PW l G 3 mX12_join bg 55 [] [(0, s0), (2, s1)] (n, K, F, E) Q := by
  obtain ⟨c1, h⟩ := h
  refine PW.pick [] rfl ?_
  exact n_callV (N := mX12_tell) (as := [(0, s0)]) (st := []) (q := 58) (d' := 0) 29 rfl uX12_tell kX12_190 rfl c1 h
theorem vX12_join_58 {l : Launch} {G : pG} {bg : Nat × Nat} {n : Nat} {K : Int → Nat × Nat} {F E : Int → Int → Int} {Q : Option pV → pM → Prop} (s0 : Int) (h : Q (some (0, s0)) (n, K, F, E)) : PW l G 3 mX12_join bg 58 [] [(0, s0)] (n, K, F, E) Q := by
  exact s_iret 30 rfl rfl h
theorem vX12_filter_0 {l : Launch} {G : pG} {bg : Nat × Nat} {n : Nat} {K : Int → Nat × Nat} {F E : Int → Int → Int} {Q : Option pV → pM → Prop} (x0 x1 x2 x3 x4 : Int) (h : (K x0).1 = 12 ∧ (∀ F1, F1 = pUp F x0 0 0 → ((¬ (0 ≤ x1 ∧ x1 < 3) → PC l G 2 mX12_newOperator (0, 0) [(2, x0), (0, 0), (0, 1), (0, x1), (0, x2), (0, x3), (0, x4)] (n, K, F1, E) (fun r μ => PW l G 3 mX12_filter bg 60 [] (r.toList ++ [(2, x0)]) μ Q)) ∧ (0 ≤ x1 ∧ x1 < 3 → ((¬ (0 ≤ x2 ∧ x2 < 2) → PC l G 2 mX12_newOperator (0, 0) [(2, x0), (0, 0), (0, 1), (0, x1), (0, x2), (0, x3), (0, x4)] (n, K, F1, E) (fun r μ => PW l G 3 mX12_filter bg 60 [] (r.toList ++ [(2, x0)]) μ Q)) ∧ (0 ≤ x2 ∧ x2 < 2 → ((¬ (0 ≤ x3 ∧ x3 ≤ 2) → PC l G 2 mX12_newOperator (0, 0) [(2, x0), (0, 0), (0, 1), (0, x1), (0, x2), (0, x3), (0, x4)] (n, K, F1, E) (fun r μ => PW l G 3 mX12_filter bg 60 [] (r.toList ++ [(2, x0)]) μ Q)) ∧ (0 ≤ x3 ∧ x3 ≤ 2 → ((¬ (0 ≤ x4 ∧ x4 ≤ 9) → PC l G 2 mX12_newOperator (0, 0) [(2, x0), (0, 0), (0, 1), (0, x1), (0, x2), (0, x3), (0, x4)] (n, K, F1, E) (fun r μ => PW l G 3 mX12_filter bg 60 [] (r.toList ++ [(2, x0)]) μ Q)) ∧ (0 ≤ x4 ∧ x4 ≤ 9 → PC l G 2 mX12_newOperator (0, 0) [(2, x0), (0, 1), (0, 1), (0, x1), (0, x2), (0, x3), (0, x4)] (n, K, F1, E) (fun r μ => PW l G 3 mX12_filter bg 60 [] (r.toList ++ [(2, x0)]) μ Q))))))))))) : PW l G 3 mX12_filter bg 0 [(0, (2, x0)), (1, (0, x1)), (2, (0, x2)), (3, (0, x3)), (4, (0, x4))] [] (n, K, F, E) Q := by
  refine s_aload_n (q := 1) 0 0 rfl rfl ?_
  refine s_iconst (q := 2) 1 rfl ?_
  obtain ⟨c1, h⟩ := h
  refine n_putf (q := 5) (jj := 0) 2 12 0 rfl kX12_174 c1 (Or.inl rfl) ?_
  refine PW.nameF (fun F1 eF1 => ?_)
  replace h := h F1 eF1
  refine s_aload_n (q := 6) 3 0 rfl rfl ?_
  refine s_aload_n (q := 7) 4 0 rfl rfl ?_
  refine s_iload_n (q := 8) 5 1 rfl rfl ?_
  refine n_callS (N := mX12_isRelation) (as := [(0, x1)]) (st := [(2, x0), (2, x0)]) (q := 11) (d' := 1) 6 rfl uX12_isRelation kX12_201 rfl (pX12_isRelation ?_)
  show PW l G 3 mX12_filter bg 11 [(0, (2, x0)), (1, (0, x1)), (2, (0, x2)), (3, (0, x3)), (4, (0, x4))] [(0, bI (0 ≤ x1 ∧ x1 < 3)), (2, x0), (2, x0)] (n, K, F1, E) Q
  refine s_if_eq (q := 14) (tgt := 50) 7 rfl rfl (fun hb => ?_) (fun hb => ?_)
  · have hb := bI_f hb
    have b2 := hb
    replace h := h.1 hb
    refine s_iconst (q := 51) 25 rfl ?_
    refine s_iconst (q := 52) 26 rfl ?_
    refine s_iload_n (q := 53) 27 1 rfl rfl ?_
    refine s_iload_n (q := 54) 28 2 rfl rfl ?_
    refine s_iload_n (q := 55) 29 3 rfl rfl ?_
    refine s_iload (q := 57) 30 4 rfl rfl ?_
    refine PW.pick [] rfl ?_
    exact n_callV (N := mX12_newOperator) (as := [(0, 0), (0, 1), (0, x1), (0, x2), (0, x3), (0, x4)]) (st := [(2, x0)]) (q := 60) (d' := 2) 31 rfl uX12_newOperator kX12_216 rfl c1 h
  · have hb := bI_t hb
    have b2 := hb
    replace h := h.2 hb
    refine s_iload_n (q := 15) 8 2 rfl rfl ?_
    refine n_callS (N := mX12_isField) (as := [(0, x2)]) (st := [(2, x0), (2, x0)]) (q := 18) (d' := 1) 9 rfl uX12_isField kX12_213 rfl (pX12_isField ?_)
    show PW l G 3 mX12_filter bg 18 [(0, (2, x0)), (1, (0, x1)), (2, (0, x2)), (3, (0, x3)), (4, (0, x4))] [(0, bI (0 ≤ x2 ∧ x2 < 2)), (2, x0), (2, x0)] (n, K, F1, E) Q
    refine s_if_eq (q := 21) (tgt := 50) 10 rfl rfl (fun hb => ?_) (fun hb => ?_)
    · have hb := bI_f hb
      have b3 := hb
      replace h := h.1 hb
      refine s_iconst (q := 51) 25 rfl ?_
      refine s_iconst (q := 52) 26 rfl ?_
      refine s_iload_n (q := 53) 27 1 rfl rfl ?_
      refine s_iload_n (q := 54) 28 2 rfl rfl ?_
      refine s_iload_n (q := 55) 29 3 rfl rfl ?_
      refine s_iload (q := 57) 30 4 rfl rfl ?_
      refine PW.pick [] rfl ?_
      exact n_callV (N := mX12_newOperator) (as := [(0, 0), (0, 1), (0, x1), (0, x2), (0, x3), (0, x4)]) (st := [(2, x0)]) (q := 60) (d' := 2) 31 rfl uX12_newOperator kX12_216 rfl c1 h
    · have hb := bI_t hb
      have b3 := hb
      replace h := h.2 hb
      refine s_iload_n (q := 22) 11 3 rfl rfl ?_
      refine s_i2l (q := 23) 12 rfl ?_
      refine s_lconst (q := 24) (x := 0) 13 rfl ?_
      refine s_ldc2 (q := 27) (x := 2) 14 rfl kX12_61 ?_
      refine n_callS (N := mX12_in) (as := [(1, x3), (1, 0), (1, 2)]) (st := [(2, x0), (2, x0)]) (q := 30) (d' := 0) 15 rfl uX12_in kX12_197 rfl (pX12_in ?_)
      show PW l G 3 mX12_filter bg 30 [(0, (2, x0)), (1, (0, x1)), (2, (0, x2)), (3, (0, x3)), (4, (0, x4))] [(0, bI (0 ≤ x3 ∧ x3 ≤ 2)), (2, x0), (2, x0)] (n, K, F1, E) Q
      refine s_if_eq (q := 33) (tgt := 50) 16 rfl rfl (fun hb => ?_) (fun hb => ?_)
      · have hb := bI_f hb
        have b4 := hb
        replace h := h.1 hb
        refine s_iconst (q := 51) 25 rfl ?_
        refine s_iconst (q := 52) 26 rfl ?_
        refine s_iload_n (q := 53) 27 1 rfl rfl ?_
        refine s_iload_n (q := 54) 28 2 rfl rfl ?_
        refine s_iload_n (q := 55) 29 3 rfl rfl ?_
        refine s_iload (q := 57) 30 4 rfl rfl ?_
        refine PW.pick [] rfl ?_
        exact n_callV (N := mX12_newOperator) (as := [(0, 0), (0, 1), (0, x1), (0, x2), (0, x3), (0, x4)]) (st := [(2, x0)]) (q := 60) (d' := 2) 31 rfl uX12_newOperator kX12_216 rfl c1 h
      · have hb := bI_t hb
        have b4 := hb
        replace h := h.2 hb
        refine s_iload (q := 35) 17 4 rfl rfl ?_
        refine s_i2l (q := 36) 18 rfl ?_
        refine s_lconst (q := 37) (x := 0) 19 rfl ?_
        refine s_ldc2 (q := 40) (x := 9) 20 rfl kX12_205 ?_
        refine n_callS (N := mX12_in) (as := [(1, x4), (1, 0), (1, 9)]) (st := [(2, x0), (2, x0)]) (q := 43) (d' := 0) 21 rfl uX12_in kX12_197 rfl (pX12_in ?_)
        show PW l G 3 mX12_filter bg 43 [(0, (2, x0)), (1, (0, x1)), (2, (0, x2)), (3, (0, x3)), (4, (0, x4))] [(0, bI (0 ≤ x4 ∧ x4 ≤ 9)), (2, x0), (2, x0)] (n, K, F1, E) Q
        refine s_if_eq (q := 46) (tgt := 50) 22 rfl rfl (fun hb => ?_) (fun hb => ?_)
        · have hb := bI_f hb
          have b5 := hb
          replace h := h.1 hb
          refine s_iconst (q := 51) 25 rfl ?_
          refine s_iconst (q := 52) 26 rfl ?_
          refine s_iload_n (q := 53) 27 1 rfl rfl ?_
          refine s_iload_n (q := 54) 28 2 rfl rfl ?_
          refine s_iload_n (q := 55) 29 3 rfl rfl ?_
          refine s_iload (q := 57) 30 4 rfl rfl ?_
          refine PW.pick [] rfl ?_
          exact n_callV (N := mX12_newOperator) (as := [(0, 0), (0, 1), (0, x1), (0, x2), (0, x3), (0, x4)]) (st := [(2, x0)]) (q := 60) (d' := 2) 31 rfl uX12_newOperator kX12_216 rfl c1 h
        · have hb := bI_t hb
          have b5 := hb
          replace h := h.2 hb
          refine s_iconst (q := 47) 23 rfl ?_
          refine s_goto (tgt := 51) 24 rfl rfl ?_
          refine s_iconst (q := 52) 26 rfl ?_
          refine s_iload_n (q := 53) 27 1 rfl rfl ?_
          refine s_iload_n (q := 54) 28 2 rfl rfl ?_
          refine s_iload_n (q := 55) 29 3 rfl rfl ?_
          refine s_iload (q := 57) 30 4 rfl rfl ?_
          refine PW.pick [] rfl ?_
          exact n_callV (N := mX12_newOperator) (as := [(0, 1), (0, 1), (0, x1), (0, x2), (0, x3), (0, x4)]) (st := [(2, x0)]) (q := 60) (d' := 2) 31 rfl uX12_newOperator kX12_216 rfl c1 h
theorem vX12_filter_60 {l : Launch} {G : pG} {bg : Nat × Nat} {n : Nat} {K : Int → Nat × Nat} {F E : Int → Int → Int} {Q : Option pV → pM → Prop} (s0 s1 : Int) (h : (K s1).1 = 12 ∧ PC l G 0 mX12_tell (0, 0) [(2, s1), (0, s0)] (n, K, F, E) (fun r μ => PW l G 3 mX12_filter bg 63 [] (r.toList ++ []) μ Q)) : PW l G 3 mX12_filter bg 60 [] [(0, s0), (2, s1)] (n, K, F, E) Q := by
  obtain ⟨c1, h⟩ := h
  refine PW.pick [] rfl ?_
  exact n_callV (N := mX12_tell) (as := [(0, s0)]) (st := []) (q := 63) (d' := 0) 32 rfl uX12_tell kX12_190 rfl c1 h
theorem vX12_filter_63 {l : Launch} {G : pG} {bg : Nat × Nat} {n : Nat} {K : Int → Nat × Nat} {F E : Int → Int → Int} {Q : Option pV → pM → Prop} (s0 : Int) (h : Q (some (0, s0)) (n, K, F, E)) : PW l G 3 mX12_filter bg 63 [] [(0, s0)] (n, K, F, E) Q := by
  exact s_iret 33 rfl rfl h
theorem vX12_operator_0 {l : Launch} {G : pG} {bg : Nat × Nat} {n : Nat} {K : Int → Nat × Nat} {F E : Int → Int → Int} {Q : Option pV → pM → Prop} (x0 x1 x2 : Int) (h : (K x0).1 = 12 ∧ (∀ F1, F1 = pUp F x0 0 0 → (K (F1 x0 3)).1 = 20 ∧ ((0 : Int) ≤ 6 ∧ 6 < ((K (F1 x0 3)).2 : Int)) ∧ (-9223372036854775808 ≤ (E (F1 x0 3) 6) - 1 ∧ (E (F1 x0 3) 6) - 1 < 9223372036854775808) ∧ ((¬ (0 ≤ x1 ∧ x1 ≤ (E (F1 x0 3) 6) - 1) → Q (some (0, (-1000))) (n, K, F1, E)) ∧ (0 ≤ x1 ∧ x1 ≤ (E (F1 x0 3) 6) - 1 → ((¬ (0 ≤ x2 ∧ x2 ≤ 5) → Q (some (0, (-1000))) (n, K, F1, E)) ∧ (0 ≤ x2 ∧ x2 ≤ 5 → (-2147483648 ≤ 6 * x1 ∧ 6 * x1 < 2147483648) ∧ (-2147483648 ≤ 18 + (6 * x1) ∧ 18 + (6 * x1) < 2147483648) ∧ (-2147483648 ≤ (18 + (6 * x1)) + x2 ∧ (18 + (6 * x1)) + x2 < 2147483648) ∧ (K (F x0 3)).1 = 20 ∧ ((0 : Int) ≤ (18 + (6 * x1)) + x2 ∧ (18 + (6 * x1)) + x2 < ((K (F x0 3)).2 : Int)) ∧ Q (some (0, E (F x0 3) ((18 + (6 * x1)) + x2))) (n, K, F1, E))))))) : PW l G 2 mX12_operator bg 0 [(0, (2, x0)), (1, (0, x1)), (2, (0, x2))] [] (n, K, F, E) Q := by
  refine s_aload_n (q := 1) 0 0 rfl rfl ?_
  refine s_iconst (q := 2) 1 rfl ?_
  obtain ⟨c1, h⟩ := h
  refine n_putf (q := 5) (jj := 0) 2 12 0 rfl kX12_174 c1 (Or.inl rfl) ?_
  refine PW.nameF (fun F1 eF1 => ?_)
  replace h := h F1 eF1
  refine s_aload_n (q := 6) 3 0 rfl rfl ?_
  refine s_iload_n (q := 7) 4 1 rfl rfl ?_
  obtain ⟨c2, h⟩ := h
  obtain ⟨c3, h⟩ := h
  obtain ⟨c4, h⟩ := h
  refine n_callV (N := mX12_isOperator) (as := [(0, x1)]) (st := []) (q := 10) (d' := 1) 5 rfl uX12_isOperator kX12_220 rfl c1 (pX12_isOperator c1 c2 c3 c4 ?_)
  show PW l G 2 mX12_operator bg 10 [(0, (2, x0)), (1, (0, x1)), (2, (0, x2))] [(0, bI (0 ≤ x1 ∧ x1 ≤ (E (F1 x0 3) 6) - 1))] (n, K, F1, E) Q
  refine s_if_eq (q := 13) (tgt := 39) 6 rfl rfl (fun hb => ?_) (fun hb => ?_)
  · have hb := bI_f hb
    have b5 := hb
    replace h := h.1 hb
    refine s_sipush (q := 42) 21 rfl ?_
    exact s_iret 22 rfl rfl h
  · have hb := bI_t hb
    have b5 := hb
    replace h := h.2 hb
    refine s_iload_n (q := 14) 7 2 rfl rfl ?_
    refine s_i2l (q := 15) 8 rfl ?_
    refine s_lconst (q := 16) (x := 0) 9 rfl ?_
    refine s_ldc2 (q := 19) (x := 5) 10 rfl kX12_223 ?_
    refine n_callS (N := mX12_in) (as := [(1, x2), (1, 0), (1, 5)]) (st := []) (q := 22) (d' := 0) 11 rfl uX12_in kX12_197 rfl (pX12_in ?_)
    show PW l G 2 mX12_operator bg 22 [(0, (2, x0)), (1, (0, x1)), (2, (0, x2))] [(0, bI (0 ≤ x2 ∧ x2 ≤ 5))] (n, K, F1, E) Q
    refine s_if_eq (q := 25) (tgt := 39) 12 rfl rfl (fun hb => ?_) (fun hb => ?_)
    · have hb := bI_f hb
      have b6 := hb
      replace h := h.1 hb
      refine s_sipush (q := 42) 21 rfl ?_
      exact s_iret 22 rfl rfl h
    · have hb := bI_t hb
      have b6 := hb
      replace h := h.2 hb
      refine s_aload_n (q := 26) 13 0 rfl rfl ?_
      refine n_getf (q := 29) (jj := 3) 14 12 3 rfl kX12_13 c1 ?_
      refine PW.top (b := F x0 3) (by exact (congrFun (congrFun eF1 _) _).trans (pUp_k (by decide))) ?_
      refine s_iload_n (q := 30) 15 1 rfl rfl ?_
      refine n_callS (N := mX12_operatorAt) (as := [(0, x1)]) (st := [(2, F x0 3)]) (q := 33) (d' := 0) 16 rfl uX12_operatorAt kX12_210 rfl ?_
      show PW l G 0 mX12_operatorAt (0, 0) 0 [(0, (0, x1))] [] (n, K, F1, E) _
      refine s_bipush (q := 2) 0 rfl ?_
      refine s_bipush (q := 4) 1 rfl ?_
      refine s_iload_n (q := 5) 2 0 rfl rfl ?_
      obtain ⟨c7, h⟩ := h
      refine n_imul (q := 6) 3 rfl c7 ?_
      obtain ⟨c8, h⟩ := h
      refine n_iadd (q := 7) 4 rfl c8 ?_
      refine s_iret 5 rfl rfl ?_
      show PW l G 2 mX12_operator bg 33 [(0, (2, x0)), (1, (0, x1)), (2, (0, x2))] [(0, 18 + (6 * x1)), (2, F x0 3)] (n, K, F1, E) Q
      refine s_iload_n (q := 34) 17 2 rfl rfl ?_
      obtain ⟨c9, h⟩ := h
      refine n_iadd (q := 35) 18 rfl c9 ?_
      obtain ⟨c10, h⟩ := h
      obtain ⟨c11, h⟩ := h
      refine n_iald (q := 36) 19 rfl c10 c11 ?_
      refine s_goto (tgt := 42) 20 rfl rfl ?_
      exact s_iret 22 rfl rfl h
theorem vX12_relation_0 {l : Launch} {G : pG} {bg : Nat × Nat} {n : Nat} {K : Int → Nat × Nat} {F E : Int → Int → Int} {Q : Option pV → pM → Prop} (x0 x1 x2 : Int) (h : (K x0).1 = 12 ∧ (∀ F1, F1 = pUp F x0 0 0 → ((0 ≤ x1 ∧ x1 < 3 → ((¬ x2 = 0 → ((¬ x2 = 1 → ((¬ x2 = 2 → Q (some (0, (-1))) (n, K, F1, E)) ∧ (x2 = 2 → (-2147483648 ≤ 15 + x1 ∧ 15 + x1 < 2147483648) ∧ (K (F x0 3)).1 = 20 ∧ ((0 : Int) ≤ 15 + x1 ∧ 15 + x1 < ((K (F x0 3)).2 : Int)) ∧ Q (some (0, E (F x0 3) (15 + x1))) (n, K, F1, E)))) ∧ (x2 = 1 → (-2147483648 ≤ 12 + x1 ∧ 12 + x1 < 2147483648) ∧ (K (F x0 3)).1 = 20 ∧ ((0 : Int) ≤ 12 + x1 ∧ 12 + x1 < ((K (F x0 3)).2 : Int)) ∧ Q (some (0, E (F x0 3) (12 + x1))) (n, K, F1, E)))) ∧ (x2 = 0 → (-2147483648 ≤ 9 + x1 ∧ 9 + x1 < 2147483648) ∧ (K (F x0 3)).1 = 20 ∧ ((0 : Int) ≤ 9 + x1 ∧ 9 + x1 < ((K (F x0 3)).2 : Int)) ∧ Q (some (0, E (F x0 3) (9 + x1))) (n, K, F1, E)))) ∧ (¬ (0 ≤ x1 ∧ x1 < 3) → Q (some (0, (-1))) (n, K, F1, E))))) : PW l G 2 mX12_relation bg 0 [(0, (2, x0)), (1, (0, x1)), (2, (0, x2))] [] (n, K, F, E) Q := by
  refine s_aload_n (q := 1) 0 0 rfl rfl ?_
  refine s_iconst (q := 2) 1 rfl ?_
  obtain ⟨c1, h⟩ := h
  refine n_putf (q := 5) (jj := 0) 2 12 0 rfl kX12_174 c1 (Or.inl rfl) ?_
  refine PW.nameF (fun F1 eF1 => ?_)
  replace h := h F1 eF1
  refine s_iload_n (q := 6) 3 1 rfl rfl ?_
  refine n_callS (N := mX12_isRelation) (as := [(0, x1)]) (st := []) (q := 9) (d' := 1) 4 rfl uX12_isRelation kX12_201 rfl (pX12_isRelation ?_)
  show PW l G 2 mX12_relation bg 9 [(0, (2, x0)), (1, (0, x1)), (2, (0, x2))] [(0, bI (0 ≤ x1 ∧ x1 < 3))] (n, K, F1, E) Q
  refine s_if_ne (q := 12) (tgt := 14) 5 rfl rfl (fun hb => ?_) (fun hb => ?_)
  · have hb := bI_t hb
    have b2 := hb
    replace h := h.1 hb
    refine s_iload_n (q := 15) 8 2 rfl rfl ?_
    refine s_if_ne (q := 18) (tgt := 30) 9 rfl rfl (fun hb => ?_) (fun hb => ?_)
    · skip
      have b3 := hb
      replace h := h.1 hb
      refine s_iload_n (q := 31) 17 2 rfl rfl ?_
      refine s_iconst (q := 32) 18 rfl ?_
      refine s_icmp_ne (q := 35) (tgt := 47) 19 rfl rfl (fun hb => ?_) (fun hb => ?_)
      · skip
        have b4 := hb
        replace h := h.1 hb
        refine s_iload_n (q := 48) 27 2 rfl rfl ?_
        refine s_iconst (q := 49) 28 rfl ?_
        refine s_icmp_ne (q := 52) (tgt := 64) 29 rfl rfl (fun hb => ?_) (fun hb => ?_)
        · skip
          have b5 := hb
          replace h := h.1 hb
          refine s_iconst (q := 65) 37 rfl ?_
          exact s_iret 38 rfl rfl h
        · have hb := Classical.not_not.mp hb
          have b5 := hb
          replace h := h.2 hb
          refine s_aload_n (q := 53) 30 0 rfl rfl ?_
          refine n_getf (q := 56) (jj := 3) 31 12 3 rfl kX12_13 c1 ?_
          refine PW.top (b := F x0 3) (by exact (congrFun (congrFun eF1 _) _).trans (pUp_k (by decide))) ?_
          refine s_bipush (q := 58) 32 rfl ?_
          refine s_iload_n (q := 59) 33 1 rfl rfl ?_
          obtain ⟨c6, h⟩ := h
          refine n_iadd (q := 60) 34 rfl c6 ?_
          obtain ⟨c7, h⟩ := h
          obtain ⟨c8, h⟩ := h
          refine n_iald (q := 61) 35 rfl c7 c8 ?_
          refine s_goto (tgt := 65) 36 rfl rfl ?_
          exact s_iret 38 rfl rfl h
      · have hb := Classical.not_not.mp hb
        have b4 := hb
        replace h := h.2 hb
        refine s_aload_n (q := 36) 20 0 rfl rfl ?_
        refine n_getf (q := 39) (jj := 3) 21 12 3 rfl kX12_13 c1 ?_
        refine PW.top (b := F x0 3) (by exact (congrFun (congrFun eF1 _) _).trans (pUp_k (by decide))) ?_
        refine s_bipush (q := 41) 22 rfl ?_
        refine s_iload_n (q := 42) 23 1 rfl rfl ?_
        obtain ⟨c9, h⟩ := h
        refine n_iadd (q := 43) 24 rfl c9 ?_
        obtain ⟨c10, h⟩ := h
        obtain ⟨c11, h⟩ := h
        refine n_iald (q := 44) 25 rfl c10 c11 ?_
        refine s_goto (tgt := 65) 26 rfl rfl ?_
        exact s_iret 38 rfl rfl h
    · have hb := Classical.not_not.mp hb
      have b3 := hb
      replace h := h.2 hb
      refine s_aload_n (q := 19) 10 0 rfl rfl ?_
      refine n_getf (q := 22) (jj := 3) 11 12 3 rfl kX12_13 c1 ?_
      refine PW.top (b := F x0 3) (by exact (congrFun (congrFun eF1 _) _).trans (pUp_k (by decide))) ?_
      refine s_bipush (q := 24) 12 rfl ?_
      refine s_iload_n (q := 25) 13 1 rfl rfl ?_
      obtain ⟨c12, h⟩ := h
      refine n_iadd (q := 26) 14 rfl c12 ?_
      obtain ⟨c13, h⟩ := h
      obtain ⟨c14, h⟩ := h
      refine n_iald (q := 27) 15 rfl c13 c14 ?_
      refine s_goto (tgt := 65) 16 rfl rfl ?_
      exact s_iret 38 rfl rfl h
  · have hb := bI_f2 hb
    have b2 := hb
    replace h := h.2 hb
    refine s_iconst (q := 13) 6 rfl ?_
    exact s_iret 7 rfl rfl h
theorem vX12_tuple_0 {l : Launch} {G : pG} {bg : Nat × Nat} {n : Nat} {K : Int → Nat × Nat} {F E : Int → Int → Int} {Q : Option pV → pM → Prop} (x0 x1 x2 x3 : Int) (h : (K x0).1 = 12 ∧ (∀ F1, F1 = pUp F x0 0 0 → ((¬ (0 ≤ x1 ∧ x1 < 3) → Q (some (0, (-1))) (n, K, F1, E)) ∧ (0 ≤ x1 ∧ x1 < 3 → (-2147483648 ≤ 15 + x1 ∧ 15 + x1 < 2147483648) ∧ (K (F x0 3)).1 = 20 ∧ ((0 : Int) ≤ 15 + x1 ∧ 15 + x1 < ((K (F x0 3)).2 : Int)) ∧ (-9223372036854775808 ≤ (E (F x0 3) (15 + x1)) - 1 ∧ (E (F x0 3) (15 + x1)) - 1 < 9223372036854775808) ∧ ((¬ (0 ≤ x2 ∧ x2 ≤ (E (F x0 3) (15 + x1)) - 1) → Q (some (0, (-1))) (n, K, F1, E)) ∧ (0 ≤ x2 ∧ x2 ≤ (E (F x0 3) (15 + x1)) - 1 → ((¬ (0 ≤ x3 ∧ x3 ≤ 2) → Q (some (0, (-1))) (n, K, F1, E)) ∧ (0 ≤ x3 ∧ x3 ≤ 2 → (-2147483648 ≤ 27 * x1 ∧ 27 * x1 < 2147483648) ∧ (-2147483648 ≤ 42 + (27 * x1) ∧ 42 + (27 * x1) < 2147483648) ∧ (-2147483648 ≤ 3 * x2 ∧ 3 * x2 < 2147483648) ∧ (-2147483648 ≤ (42 + (27 * x1)) + (3 * x2) ∧ (42 + (27 * x1)) + (3 * x2) < 2147483648) ∧ (-2147483648 ≤ ((42 + (27 * x1)) + (3 * x2)) + x3 ∧ ((42 + (27 * x1)) + (3 * x2)) + x3 < 2147483648) ∧ ((0 : Int) ≤ ((42 + (27 * x1)) + (3 * x2)) + x3 ∧ ((42 + (27 * x1)) + (3 * x2)) + x3 < ((K (F x0 3)).2 : Int)) ∧ (∀ a2, a2 = E (F x0 3) (((42 + (27 * x1)) + (3 * x2)) + x3) → Q (some (0, a2)) (n, K, F1, E)))))))))) : PW l G 2 mX12_tuple bg 0 [(0, (2, x0)), (1, (0, x1)), (2, (0, x2)), (3, (0, x3))] [] (n, K, F, E) Q := by
  refine s_aload_n (q := 1) 0 0 rfl rfl ?_
  refine s_iconst (q := 2) 1 rfl ?_
  obtain ⟨c1, h⟩ := h
  refine n_putf (q := 5) (jj := 0) 2 12 0 rfl kX12_174 c1 (Or.inl rfl) ?_
  refine PW.nameF (fun F1 eF1 => ?_)
  replace h := h F1 eF1
  refine s_iload_n (q := 6) 3 1 rfl rfl ?_
  refine n_callS (N := mX12_isRelation) (as := [(0, x1)]) (st := []) (q := 9) (d' := 1) 4 rfl uX12_isRelation kX12_201 rfl (pX12_isRelation ?_)
  show PW l G 2 mX12_tuple bg 9 [(0, (2, x0)), (1, (0, x1)), (2, (0, x2)), (3, (0, x3))] [(0, bI (0 ≤ x1 ∧ x1 < 3))] (n, K, F1, E) Q
  refine s_if_eq (q := 12) (tgt := 60) 5 rfl rfl (fun hb => ?_) (fun hb => ?_)
  · have hb := bI_f hb
    have b2 := hb
    replace h := h.1 hb
    refine s_iconst (q := 61) 35 rfl ?_
    exact s_iret 36 rfl rfl h
  · have hb := bI_t hb
    have b2 := hb
    replace h := h.2 hb
    refine s_iload_n (q := 13) 6 2 rfl rfl ?_
    refine s_i2l (q := 14) 7 rfl ?_
    refine s_lconst (q := 15) (x := 0) 8 rfl ?_
    refine s_aload_n (q := 16) 9 0 rfl rfl ?_
    refine n_getf (q := 19) (jj := 3) 10 12 3 rfl kX12_13 c1 ?_
    refine PW.top (b := F x0 3) (by exact (congrFun (congrFun eF1 _) _).trans (pUp_k (by decide))) ?_
    refine s_bipush (q := 21) 11 rfl ?_
    refine s_iload_n (q := 22) 12 1 rfl rfl ?_
    obtain ⟨c3, h⟩ := h
    refine n_iadd (q := 23) 13 rfl c3 ?_
    obtain ⟨c4, h⟩ := h
    obtain ⟨c5, h⟩ := h
    refine n_iald (q := 24) 14 rfl c4 c5 ?_
    refine s_i2l (q := 25) 15 rfl ?_
    refine s_lconst (q := 26) (x := 1) 16 rfl ?_
    obtain ⟨c6, h⟩ := h
    refine n_lsub (q := 27) 17 rfl c6 ?_
    refine n_callS (N := mX12_in) (as := [(1, x2), (1, 0), (1, (E (F x0 3) (15 + x1)) - 1)]) (st := []) (q := 30) (d' := 0) 18 rfl uX12_in kX12_197 rfl (pX12_in ?_)
    show PW l G 2 mX12_tuple bg 30 [(0, (2, x0)), (1, (0, x1)), (2, (0, x2)), (3, (0, x3))] [(0, bI (0 ≤ x2 ∧ x2 ≤ (E (F x0 3) (15 + x1)) - 1))] (n, K, F1, E) Q
    refine s_if_eq (q := 33) (tgt := 60) 19 rfl rfl (fun hb => ?_) (fun hb => ?_)
    · have hb := bI_f hb
      have b7 := hb
      replace h := h.1 hb
      refine s_iconst (q := 61) 35 rfl ?_
      exact s_iret 36 rfl rfl h
    · have hb := bI_t hb
      have b7 := hb
      replace h := h.2 hb
      refine s_iload_n (q := 34) 20 3 rfl rfl ?_
      refine s_i2l (q := 35) 21 rfl ?_
      refine s_lconst (q := 36) (x := 0) 22 rfl ?_
      refine s_ldc2 (q := 39) (x := 2) 23 rfl kX12_61 ?_
      refine n_callS (N := mX12_in) (as := [(1, x3), (1, 0), (1, 2)]) (st := []) (q := 42) (d' := 0) 24 rfl uX12_in kX12_197 rfl (pX12_in ?_)
      show PW l G 2 mX12_tuple bg 42 [(0, (2, x0)), (1, (0, x1)), (2, (0, x2)), (3, (0, x3))] [(0, bI (0 ≤ x3 ∧ x3 ≤ 2))] (n, K, F1, E) Q
      refine s_if_eq (q := 45) (tgt := 60) 25 rfl rfl (fun hb => ?_) (fun hb => ?_)
      · have hb := bI_f hb
        have b8 := hb
        replace h := h.1 hb
        refine s_iconst (q := 61) 35 rfl ?_
        exact s_iret 36 rfl rfl h
      · have hb := bI_t hb
        have b8 := hb
        replace h := h.2 hb
        refine s_aload_n (q := 46) 26 0 rfl rfl ?_
        refine n_getf (q := 49) (jj := 3) 27 12 3 rfl kX12_13 c1 ?_
        refine PW.top (b := F x0 3) (by exact (congrFun (congrFun eF1 _) _).trans (pUp_k (by decide))) ?_
        refine s_iload_n (q := 50) 28 1 rfl rfl ?_
        refine s_iload_n (q := 51) 29 2 rfl rfl ?_
        refine n_callS (N := mX12_tupleAt) (as := [(0, x1), (0, x2)]) (st := [(2, F x0 3)]) (q := 54) (d' := 0) 30 rfl uX12_tupleAt kX12_225 rfl ?_
        show PW l G 0 mX12_tupleAt (0, 0) 0 [(0, (0, x1)), (1, (0, x2))] [] (n, K, F1, E) _
        refine s_bipush (q := 2) 0 rfl ?_
        refine s_bipush (q := 4) 1 rfl ?_
        refine s_iload_n (q := 5) 2 0 rfl rfl ?_
        obtain ⟨c9, h⟩ := h
        refine n_imul (q := 6) 3 rfl c9 ?_
        obtain ⟨c10, h⟩ := h
        refine n_iadd (q := 7) 4 rfl c10 ?_
        refine s_iconst (q := 8) 5 rfl ?_
        refine s_iload_n (q := 9) 6 1 rfl rfl ?_
        obtain ⟨c11, h⟩ := h
        refine n_imul (q := 10) 7 rfl c11 ?_
        obtain ⟨c12, h⟩ := h
        refine n_iadd (q := 11) 8 rfl c12 ?_
        refine s_iret 9 rfl rfl ?_
        show PW l G 2 mX12_tuple bg 54 [(0, (2, x0)), (1, (0, x1)), (2, (0, x2)), (3, (0, x3))] [(0, (42 + (27 * x1)) + (3 * x2)), (2, F x0 3)] (n, K, F1, E) Q
        refine s_iload_n (q := 55) 31 3 rfl rfl ?_
        obtain ⟨c13, h⟩ := h
        refine n_iadd (q := 56) 32 rfl c13 ?_
        obtain ⟨c14, h⟩ := h
        refine n_iald (q := 57) 33 rfl c4 c14 ?_
        refine PW.name (fun a2 ea2 => ?_)
        replace h := h a2 ea2
        refine s_goto (tgt := 61) 34 rfl rfl ?_
        exact s_iret 36 rfl rfl h
theorem vX12_terms_0 {l : Launch} {G : pG} {bg : Nat × Nat} {n : Nat} {K : Int → Nat × Nat} {F E : Int → Int → Int} {Q : Option pV → pM → Prop} (x0 x1 x2 : Int) (h : (K x0).1 = 12 ∧ (∀ F1, F1 = pUp F x0 0 0 → ((¬ x1 = 0 → ((¬ x1 = 1 → ((¬ x1 = 2 → PC l G 0 mX12_tell (0, 0) [(2, x0), (0, (-1))] (n, K, F1, E) (fun r μ => PW l G 1 mX12_terms bg 81 [] (r.toList ++ []) μ Q)) ∧ (x1 = 2 → ((¬ (0 ≤ x2 ∧ x2 ≤ 9) → PC l G 0 mX12_tell (0, 0) [(2, x0), (0, (-1))] (n, K, F1, E) (fun r μ => PW l G 1 mX12_terms bg 81 [] (r.toList ++ []) μ Q)) ∧ (0 ≤ x2 ∧ x2 ≤ 9 → (-2147483648 ≤ 3 + x1 ∧ 3 + x1 < 2147483648) ∧ (K (F x0 3)).1 = 20 ∧ ((0 : Int) ≤ 3 + x1 ∧ 3 + x1 < ((K (F x0 3)).2 : Int)) ∧ (0 : Int) ≤ F x0 3 ∧ (∀ E2, E2 = pUp E (F x0 3) (3 + x1) x2 → (∀ F3, F3 = pUp F1 x0 1 0 → Q (some (0, E (F x0 3) (3 + x1))) (n, K, F3, E2)))))))) ∧ (x1 = 1 → ((¬ (0 ≤ x2 ∧ x2 ≤ 10) → PC l G 0 mX12_tell (0, 0) [(2, x0), (0, (-1))] (n, K, F1, E) (fun r μ => PW l G 1 mX12_terms bg 81 [] (r.toList ++ []) μ Q)) ∧ (0 ≤ x2 ∧ x2 ≤ 10 → (-2147483648 ≤ 3 + x1 ∧ 3 + x1 < 2147483648) ∧ (K (F x0 3)).1 = 20 ∧ ((0 : Int) ≤ 3 + x1 ∧ 3 + x1 < ((K (F x0 3)).2 : Int)) ∧ (0 : Int) ≤ F x0 3 ∧ (∀ E4, E4 = pUp E (F x0 3) (3 + x1) x2 → (∀ F5, F5 = pUp F1 x0 1 0 → Q (some (0, E (F x0 3) (3 + x1))) (n, K, F5, E4)))))))) ∧ (x1 = 0 → ((¬ (1 ≤ x2 ∧ x2 ≤ 999) → PC l G 0 mX12_tell (0, 0) [(2, x0), (0, (-1))] (n, K, F1, E) (fun r μ => PW l G 1 mX12_terms bg 81 [] (r.toList ++ []) μ Q)) ∧ (1 ≤ x2 ∧ x2 ≤ 999 → (-2147483648 ≤ 3 + x1 ∧ 3 + x1 < 2147483648) ∧ (K (F x0 3)).1 = 20 ∧ ((0 : Int) ≤ 3 + x1 ∧ 3 + x1 < ((K (F x0 3)).2 : Int)) ∧ (0 : Int) ≤ F x0 3 ∧ (∀ E6, E6 = pUp E (F x0 3) (3 + x1) x2 → (∀ F7, F7 = pUp F1 x0 1 0 → Q (some (0, E (F x0 3) (3 + x1))) (n, K, F7, E6))))))))) : PW l G 1 mX12_terms bg 0 [(0, (2, x0)), (1, (0, x1)), (2, (0, x2))] [] (n, K, F, E) Q := by
  refine s_aload_n (q := 1) 0 0 rfl rfl ?_
  refine s_iconst (q := 2) 1 rfl ?_
  obtain ⟨c1, h⟩ := h
  refine n_putf (q := 5) (jj := 0) 2 12 0 rfl kX12_174 c1 (Or.inl rfl) ?_
  refine PW.nameF (fun F1 eF1 => ?_)
  replace h := h F1 eF1
  refine s_iload_n (q := 6) 3 1 rfl rfl ?_
  refine s_if_ne (q := 9) (tgt := 21) 4 rfl rfl (fun hb => ?_) (fun hb => ?_)
  · skip
    have b2 := hb
    replace h := h.1 hb
    refine s_iload_n (q := 22) 11 1 rfl rfl ?_
    refine s_iconst (q := 23) 12 rfl ?_
    refine s_icmp_ne (q := 26) (tgt := 38) 13 rfl rfl (fun hb => ?_) (fun hb => ?_)
    · skip
      have b3 := hb
      replace h := h.1 hb
      refine s_iload_n (q := 39) 20 1 rfl rfl ?_
      refine s_iconst (q := 40) 21 rfl ?_
      refine s_icmp_ne (q := 43) (tgt := 59) 22 rfl rfl (fun hb => ?_) (fun hb => ?_)
      · skip
        have b4 := hb
        replace h := h.1 hb
        refine s_iconst (q := 60) 31 rfl ?_
        refine s_istore_n (q := 61) (lv' := [(3, (0, 0)), (0, (2, x0)), (1, (0, x1)), (2, (0, x2))]) 32 rfl rfl ?_
        refine s_iload_n (q := 62) 33 0 rfl rfl ?_
        refine s_if_eq (q := 65) (tgt := 76) 34 rfl rfl (fun _ => ?_) (fun hb => absurd (by decide) hb)
        refine s_aload_n (q := 77) 42 1 rfl rfl ?_
        refine s_iconst (q := 78) 43 rfl ?_
        refine PW.pick [] rfl ?_
        exact n_callV (N := mX12_tell) (as := [(0, (-1))]) (st := []) (q := 81) (d' := 0) 44 rfl uX12_tell kX12_190 rfl c1 h
      · have hb := Classical.not_not.mp hb
        have b4 := hb
        replace h := h.2 hb
        refine s_iload_n (q := 44) 23 2 rfl rfl ?_
        refine s_i2l (q := 45) 24 rfl ?_
        refine s_lconst (q := 46) (x := 0) 25 rfl ?_
        refine s_ldc2 (q := 49) (x := 9) 26 rfl kX12_205 ?_
        refine n_callS (N := mX12_in) (as := [(1, x2), (1, 0), (1, 9)]) (st := []) (q := 52) (d' := 0) 27 rfl uX12_in kX12_197 rfl (pX12_in ?_)
        show PW l G 1 mX12_terms bg 52 [(0, (2, x0)), (1, (0, x1)), (2, (0, x2))] [(0, bI (0 ≤ x2 ∧ x2 ≤ 9))] (n, K, F1, E) Q
        refine s_if_eq (q := 55) (tgt := 59) 28 rfl rfl (fun hb => ?_) (fun hb => ?_)
        · have hb := bI_f hb
          have b5 := hb
          replace h := h.1 hb
          refine s_iconst (q := 60) 31 rfl ?_
          refine s_istore_n (q := 61) (lv' := [(3, (0, 0)), (0, (2, x0)), (1, (0, x1)), (2, (0, x2))]) 32 rfl rfl ?_
          refine s_iload_n (q := 62) 33 0 rfl rfl ?_
          refine s_if_eq (q := 65) (tgt := 76) 34 rfl rfl (fun _ => ?_) (fun hb => absurd (by decide) hb)
          refine s_aload_n (q := 77) 42 1 rfl rfl ?_
          refine s_iconst (q := 78) 43 rfl ?_
          refine PW.pick [] rfl ?_
          exact n_callV (N := mX12_tell) (as := [(0, (-1))]) (st := []) (q := 81) (d' := 0) 44 rfl uX12_tell kX12_190 rfl c1 h
        · have hb := bI_t hb
          have b5 := hb
          replace h := h.2 hb
          refine s_iconst (q := 56) 29 rfl ?_
          refine s_goto (tgt := 60) 30 rfl rfl ?_
          refine s_istore_n (q := 61) (lv' := [(3, (0, 1)), (0, (2, x0)), (1, (0, x1)), (2, (0, x2))]) 32 rfl rfl ?_
          refine s_iload_n (q := 62) 33 0 rfl rfl ?_
          refine s_if_eq (q := 65) (tgt := 76) 34 rfl rfl (fun hb => absurd hb (by decide)) (fun _ => ?_)
          refine s_aload_n (q := 66) 35 1 rfl rfl ?_
          refine s_iconst (q := 67) 36 rfl ?_
          refine s_iload_n (q := 68) 37 2 rfl rfl ?_
          obtain ⟨c6, h⟩ := h
          refine n_iadd (q := 69) 38 rfl c6 ?_
          refine s_iload_n (q := 70) 39 3 rfl rfl ?_
          refine n_callV (N := mX12_change) (as := [(0, 3 + x1), (0, x2)]) (st := []) (q := 73) (d' := 0) 40 rfl uX12_change kX12_233 rfl c1 ?_
          show PW l G 0 mX12_change (0, 0) 0 [(0, (2, x0)), (1, (0, 3 + x1)), (2, (0, x2))] [] (n, K, F1, E) _
          refine s_aload_n (q := 1) 0 0 rfl rfl ?_
          refine n_getf (q := 4) (jj := 3) 1 12 3 rfl kX12_13 c1 ?_
          refine PW.top (b := F x0 3) (by exact (congrFun (congrFun eF1 _) _).trans (pUp_k (by decide))) ?_
          refine s_iload_n (q := 5) 2 1 rfl rfl ?_
          obtain ⟨c7, h⟩ := h
          obtain ⟨c8, h⟩ := h
          refine n_iald (q := 6) 3 rfl c7 c8 ?_
          refine s_istore_n (q := 7) (lv' := [(3, (0, E (F x0 3) (3 + x1))), (0, (2, x0)), (1, (0, 3 + x1)), (2, (0, x2))]) 4 rfl rfl ?_
          refine s_aload_n (q := 8) 5 1 rfl rfl ?_
          refine n_getf (q := 11) (jj := 3) 6 12 3 rfl kX12_13 c1 ?_
          refine PW.top (b := F x0 3) (by exact (congrFun (congrFun eF1 _) _).trans (pUp_k (by decide))) ?_
          refine s_iload_n (q := 12) 7 2 rfl rfl ?_
          refine s_iload_n (q := 13) 8 3 rfl rfl ?_
          obtain ⟨c9, h⟩ := h
          refine n_iast (q := 14) 9 rfl c9 c7 c8 ?_
          refine PW.nameE (fun E2 eE2 => ?_)
          replace h := h E2 eE2
          refine s_aload_n (q := 15) 10 1 rfl rfl ?_
          refine s_iconst (q := 16) 11 rfl ?_
          refine n_putf (q := 19) (jj := 1) 12 12 1 rfl kX12_177 c1 (Or.inl rfl) ?_
          refine PW.nameF (fun F3 eF3 => ?_)
          replace h := h F3 eF3
          refine s_iload_n (q := 20) 13 0 rfl rfl ?_
          refine s_iret 14 rfl rfl ?_
          show PW l G 1 mX12_terms bg 73 [(3, (0, 1)), (0, (2, x0)), (1, (0, x1)), (2, (0, x2))] [(0, E (F x0 3) (3 + x1))] (n, K, F3, E2) Q
          refine s_goto (tgt := 81) 41 rfl rfl ?_
          exact s_iret 45 rfl rfl h
    · have hb := Classical.not_not.mp hb
      have b3 := hb
      replace h := h.2 hb
      refine s_iload_n (q := 27) 14 2 rfl rfl ?_
      refine s_i2l (q := 28) 15 rfl ?_
      refine s_lconst (q := 29) (x := 0) 16 rfl ?_
      refine s_ldc2 (q := 32) (x := 10) 17 rfl kX12_231 ?_
      refine n_callS (N := mX12_in) (as := [(1, x2), (1, 0), (1, 10)]) (st := []) (q := 35) (d' := 0) 18 rfl uX12_in kX12_197 rfl (pX12_in ?_)
      show PW l G 1 mX12_terms bg 35 [(0, (2, x0)), (1, (0, x1)), (2, (0, x2))] [(0, bI (0 ≤ x2 ∧ x2 ≤ 10))] (n, K, F1, E) Q
      refine s_goto (tgt := 60) 19 rfl rfl ?_
      refine s_istore_n (q := 61) (lv' := [(3, (0, bI (0 ≤ x2 ∧ x2 ≤ 10))), (0, (2, x0)), (1, (0, x1)), (2, (0, x2))]) 32 rfl rfl ?_
      refine s_iload_n (q := 62) 33 0 rfl rfl ?_
      refine s_if_eq (q := 65) (tgt := 76) 34 rfl rfl (fun hb => ?_) (fun hb => ?_)
      · have hb := bI_f hb
        have b10 := hb
        replace h := h.1 hb
        refine s_aload_n (q := 77) 42 1 rfl rfl ?_
        refine s_iconst (q := 78) 43 rfl ?_
        refine PW.pick [] rfl ?_
        exact n_callV (N := mX12_tell) (as := [(0, (-1))]) (st := []) (q := 81) (d' := 0) 44 rfl uX12_tell kX12_190 rfl c1 h
      · have hb := bI_t hb
        have b10 := hb
        replace h := h.2 hb
        refine s_aload_n (q := 66) 35 1 rfl rfl ?_
        refine s_iconst (q := 67) 36 rfl ?_
        refine s_iload_n (q := 68) 37 2 rfl rfl ?_
        obtain ⟨c11, h⟩ := h
        refine n_iadd (q := 69) 38 rfl c11 ?_
        refine s_iload_n (q := 70) 39 3 rfl rfl ?_
        refine n_callV (N := mX12_change) (as := [(0, 3 + x1), (0, x2)]) (st := []) (q := 73) (d' := 0) 40 rfl uX12_change kX12_233 rfl c1 ?_
        show PW l G 0 mX12_change (0, 0) 0 [(0, (2, x0)), (1, (0, 3 + x1)), (2, (0, x2))] [] (n, K, F1, E) _
        refine s_aload_n (q := 1) 0 0 rfl rfl ?_
        refine n_getf (q := 4) (jj := 3) 1 12 3 rfl kX12_13 c1 ?_
        refine PW.top (b := F x0 3) (by exact (congrFun (congrFun eF1 _) _).trans (pUp_k (by decide))) ?_
        refine s_iload_n (q := 5) 2 1 rfl rfl ?_
        obtain ⟨c12, h⟩ := h
        obtain ⟨c13, h⟩ := h
        refine n_iald (q := 6) 3 rfl c12 c13 ?_
        refine s_istore_n (q := 7) (lv' := [(3, (0, E (F x0 3) (3 + x1))), (0, (2, x0)), (1, (0, 3 + x1)), (2, (0, x2))]) 4 rfl rfl ?_
        refine s_aload_n (q := 8) 5 1 rfl rfl ?_
        refine n_getf (q := 11) (jj := 3) 6 12 3 rfl kX12_13 c1 ?_
        refine PW.top (b := F x0 3) (by exact (congrFun (congrFun eF1 _) _).trans (pUp_k (by decide))) ?_
        refine s_iload_n (q := 12) 7 2 rfl rfl ?_
        refine s_iload_n (q := 13) 8 3 rfl rfl ?_
        obtain ⟨c14, h⟩ := h
        refine n_iast (q := 14) 9 rfl c14 c12 c13 ?_
        refine PW.nameE (fun E4 eE4 => ?_)
        replace h := h E4 eE4
        refine s_aload_n (q := 15) 10 1 rfl rfl ?_
        refine s_iconst (q := 16) 11 rfl ?_
        refine n_putf (q := 19) (jj := 1) 12 12 1 rfl kX12_177 c1 (Or.inl rfl) ?_
        refine PW.nameF (fun F5 eF5 => ?_)
        replace h := h F5 eF5
        refine s_iload_n (q := 20) 13 0 rfl rfl ?_
        refine s_iret 14 rfl rfl ?_
        show PW l G 1 mX12_terms bg 73 [(3, (0, bI (0 ≤ x2 ∧ x2 ≤ 10))), (0, (2, x0)), (1, (0, x1)), (2, (0, x2))] [(0, E (F x0 3) (3 + x1))] (n, K, F5, E4) Q
        refine s_goto (tgt := 81) 41 rfl rfl ?_
        exact s_iret 45 rfl rfl h
  · have hb := Classical.not_not.mp hb
    have b2 := hb
    replace h := h.2 hb
    refine s_iload_n (q := 10) 5 2 rfl rfl ?_
    refine s_i2l (q := 11) 6 rfl ?_
    refine s_lconst (q := 12) (x := 1) 7 rfl ?_
    refine s_ldc2 (q := 15) (x := 999) 8 rfl kX12_229 ?_
    refine n_callS (N := mX12_in) (as := [(1, x2), (1, 1), (1, 999)]) (st := []) (q := 18) (d' := 0) 9 rfl uX12_in kX12_197 rfl (pX12_in ?_)
    show PW l G 1 mX12_terms bg 18 [(0, (2, x0)), (1, (0, x1)), (2, (0, x2))] [(0, bI (1 ≤ x2 ∧ x2 ≤ 999))] (n, K, F1, E) Q
    refine s_goto (tgt := 60) 10 rfl rfl ?_
    refine s_istore_n (q := 61) (lv' := [(3, (0, bI (1 ≤ x2 ∧ x2 ≤ 999))), (0, (2, x0)), (1, (0, x1)), (2, (0, x2))]) 32 rfl rfl ?_
    refine s_iload_n (q := 62) 33 0 rfl rfl ?_
    refine s_if_eq (q := 65) (tgt := 76) 34 rfl rfl (fun hb => ?_) (fun hb => ?_)
    · have hb := bI_f hb
      have b15 := hb
      replace h := h.1 hb
      refine s_aload_n (q := 77) 42 1 rfl rfl ?_
      refine s_iconst (q := 78) 43 rfl ?_
      refine PW.pick [] rfl ?_
      exact n_callV (N := mX12_tell) (as := [(0, (-1))]) (st := []) (q := 81) (d' := 0) 44 rfl uX12_tell kX12_190 rfl c1 h
    · have hb := bI_t hb
      have b15 := hb
      replace h := h.2 hb
      refine s_aload_n (q := 66) 35 1 rfl rfl ?_
      refine s_iconst (q := 67) 36 rfl ?_
      refine s_iload_n (q := 68) 37 2 rfl rfl ?_
      obtain ⟨c16, h⟩ := h
      refine n_iadd (q := 69) 38 rfl c16 ?_
      refine s_iload_n (q := 70) 39 3 rfl rfl ?_
      refine n_callV (N := mX12_change) (as := [(0, 3 + x1), (0, x2)]) (st := []) (q := 73) (d' := 0) 40 rfl uX12_change kX12_233 rfl c1 ?_
      show PW l G 0 mX12_change (0, 0) 0 [(0, (2, x0)), (1, (0, 3 + x1)), (2, (0, x2))] [] (n, K, F1, E) _
      refine s_aload_n (q := 1) 0 0 rfl rfl ?_
      refine n_getf (q := 4) (jj := 3) 1 12 3 rfl kX12_13 c1 ?_
      refine PW.top (b := F x0 3) (by exact (congrFun (congrFun eF1 _) _).trans (pUp_k (by decide))) ?_
      refine s_iload_n (q := 5) 2 1 rfl rfl ?_
      obtain ⟨c17, h⟩ := h
      obtain ⟨c18, h⟩ := h
      refine n_iald (q := 6) 3 rfl c17 c18 ?_
      refine s_istore_n (q := 7) (lv' := [(3, (0, E (F x0 3) (3 + x1))), (0, (2, x0)), (1, (0, 3 + x1)), (2, (0, x2))]) 4 rfl rfl ?_
      refine s_aload_n (q := 8) 5 1 rfl rfl ?_
      refine n_getf (q := 11) (jj := 3) 6 12 3 rfl kX12_13 c1 ?_
      refine PW.top (b := F x0 3) (by exact (congrFun (congrFun eF1 _) _).trans (pUp_k (by decide))) ?_
      refine s_iload_n (q := 12) 7 2 rfl rfl ?_
      refine s_iload_n (q := 13) 8 3 rfl rfl ?_
      obtain ⟨c19, h⟩ := h
      refine n_iast (q := 14) 9 rfl c19 c17 c18 ?_
      refine PW.nameE (fun E6 eE6 => ?_)
      replace h := h E6 eE6
      refine s_aload_n (q := 15) 10 1 rfl rfl ?_
      refine s_iconst (q := 16) 11 rfl ?_
      refine n_putf (q := 19) (jj := 1) 12 12 1 rfl kX12_177 c1 (Or.inl rfl) ?_
      refine PW.nameF (fun F7 eF7 => ?_)
      replace h := h F7 eF7
      refine s_iload_n (q := 20) 13 0 rfl rfl ?_
      refine s_iret 14 rfl rfl ?_
      show PW l G 1 mX12_terms bg 73 [(3, (0, bI (1 ≤ x2 ∧ x2 ≤ 999))), (0, (2, x0)), (1, (0, x1)), (2, (0, x2))] [(0, E (F x0 3) (3 + x1))] (n, K, F7, E6) Q
      refine s_goto (tgt := 81) 41 rfl rfl ?_
      exact s_iret 45 rfl rfl h
theorem vX12_terms_81 {l : Launch} {G : pG} {bg : Nat × Nat} {n : Nat} {K : Int → Nat × Nat} {F E : Int → Int → Int} {Q : Option pV → pM → Prop} (s0 : Int) (h : Q (some (0, s0)) (n, K, F, E)) : PW l G 1 mX12_terms bg 81 [] [(0, s0)] (n, K, F, E) Q := by
  exact s_iret 45 rfl rfl h
theorem vX12_row_0 {l : Launch} {G : pG} {bg : Nat × Nat} {n : Nat} {K : Int → Nat × Nat} {F E : Int → Int → Int} {Q : Option pV → pM → Prop} (x0 : Int) (h : (K x0).1 = 12 ∧ (∀ F1, F1 = pUp F x0 0 0 → (∀ F2, F2 = pUp F1 x0 13 0 → ((¬ (F x0 13) = 0 → (∀ F3, F3 = pUp F2 x0 11 0 → PW l G 8 mX12_row bg 35 [(0, (2, x0)), (1, (0, F x0 13)), (2, (0, 0)), (3, (0, 0))] [] (n, K, F3, E) Q)) ∧ ((F x0 13) = 0 → PC l G 0 mX12_tell (0, 0) [(2, x0), (0, (-6))] (n, K, F2, E) (fun r μ => PW l G 8 mX12_row bg 25 [] (r.toList ++ []) μ Q)))))) : PW l G 8 mX12_row bg 0 [(0, (2, x0))] [] (n, K, F, E) Q := by
  refine s_aload_n (q := 1) 0 0 rfl rfl ?_
  refine s_iconst (q := 2) 1 rfl ?_
  obtain ⟨c1, h⟩ := h
  refine n_putf (q := 5) (jj := 0) 2 12 0 rfl kX12_174 c1 (Or.inl rfl) ?_
  refine PW.nameF (fun F1 eF1 => ?_)
  replace h := h F1 eF1
  refine s_aload_n (q := 6) 3 0 rfl rfl ?_
  refine n_getf (q := 9) (jj := 13) 4 12 13 rfl kX12_236 c1 ?_
  refine PW.top (b := F x0 13) (by exact (congrFun (congrFun eF1 _) _).trans (pUp_k (by decide))) ?_
  refine s_istore_n (q := 10) (lv' := [(1, (0, F x0 13)), (0, (2, x0))]) 5 rfl rfl ?_
  refine s_aload_n (q := 11) 6 1 rfl rfl ?_
  refine s_iconst (q := 12) 7 rfl ?_
  refine n_putf (q := 15) (jj := 13) 8 12 13 rfl kX12_236 c1 (Or.inl rfl) ?_
  refine PW.nameF (fun F2 eF2 => ?_)
  replace h := h F2 eF2
  refine s_iload_n (q := 16) 9 0 rfl rfl ?_
  refine s_if_ne (q := 19) (tgt := 26) 10 rfl rfl (fun hb => ?_) (fun hb => ?_)
  · skip
    have b2 := hb
    replace h := h.1 hb
    refine s_aload_n (q := 27) 15 1 rfl rfl ?_
    refine s_iconst (q := 28) 16 rfl ?_
    refine n_putf (q := 31) (jj := 11) 17 12 11 rfl kX12_239 c1 (Or.inl rfl) ?_
    refine PW.nameF (fun F3 eF3 => ?_)
    replace h := h F3 eF3
    refine s_iconst (q := 32) 18 rfl ?_
    refine s_istore_n (q := 33) (lv' := [(2, (0, 0)), (1, (0, F x0 13)), (0, (2, x0))]) 19 rfl rfl ?_
    refine s_iconst (q := 34) 20 rfl ?_
    refine s_istore_n (q := 35) (lv' := [(3, (0, 0)), (2, (0, 0)), (1, (0, F x0 13)), (0, (2, x0))]) 21 rfl rfl ?_
    refine PW.pick [3, 2, 1, 0] rfl ?_
    exact h
  · have hb := Classical.not_not.mp hb
    have b2 := hb
    replace h := h.2 hb
    refine s_aload_n (q := 20) 11 1 rfl rfl ?_
    refine s_bipush (q := 22) 12 rfl ?_
    refine PW.pick [] rfl ?_
    exact n_callV (N := mX12_tell) (as := [(0, (-6))]) (st := []) (q := 25) (d' := 0) 13 rfl uX12_tell kX12_190 rfl c1 h
theorem vX12_row_25 {l : Launch} {G : pG} {bg : Nat × Nat} {n : Nat} {K : Int → Nat × Nat} {F E : Int → Int → Int} {Q : Option pV → pM → Prop} (s0 : Int) (h : Q (some (0, s0)) (n, K, F, E)) : PW l G 8 mX12_row bg 25 [] [(0, s0)] (n, K, F, E) Q := by
  exact s_iret 14 rfl rfl h
theorem vX12_row_35 {l : Launch} {G : pG} {bg : Nat × Nat} {n : Nat} {K : Int → Nat × Nat} {F E : Int → Int → Int} {Q : Option pV → pM → Prop} (x0 x1 x2 x3 : Int) (h : ((x1 ≤ x3 → (K x0).1 = 12 ∧ (∀ F1, F1 = pUp F x0 8 0 → PC l G 0 mX12_tell (0, 0) [(2, x0), (0, x2)] (n, K, F1, E) (fun r μ => PW l G 8 mX12_row bg 108 [] (r.toList ++ []) μ Q))) ∧ (¬ (x1 ≤ x3) → (-2147483648 ≤ x3 + 2 ∧ x3 + 2 < 2147483648) ∧ ((x1 ≤ x3 + 2 → (K x0).1 = 12 ∧ (-2147483648 ≤ (F x0 11) + 1 ∧ (F x0 11) + 1 < 2147483648) ∧ (∀ F2, F2 = pUp F x0 11 ((F x0 11) + 1) → (-2147483648 ≤ x3 + 3 ∧ x3 + 3 < 2147483648) ∧ PW l G 8 mX12_row bg 35 [(0, (2, x0)), (1, (0, x1)), (2, (0, x2)), (3, (0, x3 + 3))] [] (n, K, F2, E) Q)) ∧ (¬ (x1 ≤ x3 + 2) → (K x0).1 = 12 ∧ (K (F x0 12)).1 = 20 ∧ ((0 : Int) ≤ x3 ∧ x3 < ((K (F x0 12)).2 : Int)) ∧ (-2147483648 ≤ x3 + 1 ∧ x3 + 1 < 2147483648) ∧ ((0 : Int) ≤ x3 + 1 ∧ x3 + 1 < ((K (F x0 12)).2 : Int)) ∧ ((0 : Int) ≤ x3 + 2 ∧ x3 + 2 < ((K (F x0 12)).2 : Int)) ∧ PC l G 7 mX12_comeNow (0, 0) [(2, x0), (0, E (F x0 12) x3), (0, E (F x0 12) (x3 + 1)), (0, E (F x0 12) (x3 + 2))] (n, K, F, E) (fun r μ => PW l G 8 mX12_row bg 73 [(0, (2, x0)), (1, (0, x1)), (2, (0, x2)), (3, (0, x3))] (r.toList ++ []) μ Q)))))) : PW l G 8 mX12_row bg 35 [(0, (2, x0)), (1, (0, x1)), (2, (0, x2)), (3, (0, x3))] [] (n, K, F, E) Q := by
  refine s_iload_n (q := 36) 22 3 rfl rfl ?_
  refine s_iload_n (q := 37) 23 1 rfl rfl ?_
  refine s_icmp_ge (q := 40) (tgt := 98) 24 rfl rfl (fun hb => ?_) (fun hb => ?_)
  · skip
    have b1 := hb
    replace h := h.1 hb
    refine s_aload_n (q := 99) 59 0 rfl rfl ?_
    refine s_iconst (q := 100) 60 rfl ?_
    obtain ⟨c2, h⟩ := h
    refine n_putf (q := 103) (jj := 8) 61 12 8 rfl kX12_180 c2 (Or.inl rfl) ?_
    refine PW.nameF (fun F1 eF1 => ?_)
    replace h := h F1 eF1
    refine s_aload_n (q := 104) 62 0 rfl rfl ?_
    refine s_iload_n (q := 105) 63 2 rfl rfl ?_
    refine PW.pick [] rfl ?_
    exact n_callV (N := mX12_tell) (as := [(0, x2)]) (st := []) (q := 108) (d' := 0) 64 rfl uX12_tell kX12_190 rfl c2 h
  · skip
    have b1 := hb
    replace h := h.2 hb
    refine s_iload_n (q := 41) 25 3 rfl rfl ?_
    refine s_iconst (q := 42) 26 rfl ?_
    obtain ⟨c3, h⟩ := h
    refine n_iadd (q := 43) 27 rfl c3 ?_
    refine s_iload_n (q := 44) 28 1 rfl rfl ?_
    refine s_icmp_ge (q := 47) (tgt := 82) 29 rfl rfl (fun hb => ?_) (fun hb => ?_)
    · skip
      have b4 := hb
      replace h := h.1 hb
      refine s_aload_n (q := 83) 51 0 rfl rfl ?_
      refine s_dup (q := 84) 52 rfl ?_
      obtain ⟨c5, h⟩ := h
      refine n_getf (q := 87) (jj := 11) 53 12 11 rfl kX12_239 c5 ?_
      refine s_iconst (q := 88) 54 rfl ?_
      obtain ⟨c6, h⟩ := h
      refine n_iadd (q := 89) 55 rfl c6 ?_
      refine n_putf (q := 92) (jj := 11) 56 12 11 rfl kX12_239 c5 (Or.inl rfl) ?_
      refine PW.nameF (fun F2 eF2 => ?_)
      replace h := h F2 eF2
      obtain ⟨c7, h⟩ := h
      refine n_iinc (q := 95) (lv' := [(3, (0, x3 + 3)), (0, (2, x0)), (1, (0, x1)), (2, (0, x2))]) 57 3 rfl rfl c7 rfl ?_
      refine s_goto (tgt := 35) 58 rfl rfl ?_
      refine PW.pick [1, 2, 3, 0] rfl ?_
      exact h
    · skip
      have b4 := hb
      replace h := h.2 hb
      refine s_aload_n (q := 48) 30 0 rfl rfl ?_
      refine s_aload_n (q := 49) 31 0 rfl rfl ?_
      obtain ⟨c8, h⟩ := h
      refine n_getf (q := 52) (jj := 12) 32 12 12 rfl kX12_35 c8 ?_
      refine s_iload_n (q := 53) 33 3 rfl rfl ?_
      obtain ⟨c9, h⟩ := h
      obtain ⟨c10, h⟩ := h
      refine n_iald (q := 54) 34 rfl c9 c10 ?_
      refine s_aload_n (q := 55) 35 0 rfl rfl ?_
      refine n_getf (q := 58) (jj := 12) 36 12 12 rfl kX12_35 c8 ?_
      refine s_iload_n (q := 59) 37 3 rfl rfl ?_
      refine s_iconst (q := 60) 38 rfl ?_
      obtain ⟨c11, h⟩ := h
      refine n_iadd (q := 61) 39 rfl c11 ?_
      obtain ⟨c12, h⟩ := h
      refine n_iald (q := 62) 40 rfl c9 c12 ?_
      refine s_aload_n (q := 63) 41 0 rfl rfl ?_
      refine n_getf (q := 66) (jj := 12) 42 12 12 rfl kX12_35 c8 ?_
      refine s_iload_n (q := 67) 43 3 rfl rfl ?_
      refine s_iconst (q := 68) 44 rfl ?_
      refine n_iadd (q := 69) 45 rfl c3 ?_
      obtain ⟨c13, h⟩ := h
      refine n_iald (q := 70) 46 rfl c9 c13 ?_
      refine PW.pick [0, 1, 2, 3] rfl ?_
      exact n_callV (N := mX12_comeNow) (as := [(0, E (F x0 12) x3), (0, E (F x0 12) (x3 + 1)), (0, E (F x0 12) (x3 + 2))]) (st := []) (q := 73) (d' := 7) 47 rfl uX12_comeNow kX12_242 rfl c8 h
theorem vX12_row_73 {l : Launch} {G : pG} {bg : Nat × Nat} {n : Nat} {K : Int → Nat × Nat} {F E : Int → Int → Int} {Q : Option pV → pM → Prop} (x0 x1 x2 x3 s0 : Int) (h : ((s0 < 0 → (K x0).1 = 12 ∧ (-2147483648 ≤ (F x0 11) + 1 ∧ (F x0 11) + 1 < 2147483648) ∧ (∀ F1, F1 = pUp F x0 11 ((F x0 11) + 1) → (-2147483648 ≤ x3 + 3 ∧ x3 + 3 < 2147483648) ∧ PW l G 8 mX12_row bg 35 [(0, (2, x0)), (1, (0, x1)), (2, (0, x2)), (3, (0, x3 + 3))] [] (n, K, F1, E) Q)) ∧ (¬ (s0 < 0) → (-2147483648 ≤ x2 + 1 ∧ x2 + 1 < 2147483648) ∧ (-2147483648 ≤ x3 + 3 ∧ x3 + 3 < 2147483648) ∧ PW l G 8 mX12_row bg 35 [(0, (2, x0)), (1, (0, x1)), (2, (0, x2 + 1)), (3, (0, x3 + 3))] [] (n, K, F, E) Q))) : PW l G 8 mX12_row bg 73 [(0, (2, x0)), (1, (0, x1)), (2, (0, x2)), (3, (0, x3))] [(0, s0)] (n, K, F, E) Q := by
  refine s_if_lt (q := 76) (tgt := 82) 48 rfl rfl (fun hb => ?_) (fun hb => ?_)
  · skip
    have b1 := hb
    replace h := h.1 hb
    refine s_aload_n (q := 83) 51 0 rfl rfl ?_
    refine s_dup (q := 84) 52 rfl ?_
    obtain ⟨c2, h⟩ := h
    refine n_getf (q := 87) (jj := 11) 53 12 11 rfl kX12_239 c2 ?_
    refine s_iconst (q := 88) 54 rfl ?_
    obtain ⟨c3, h⟩ := h
    refine n_iadd (q := 89) 55 rfl c3 ?_
    refine n_putf (q := 92) (jj := 11) 56 12 11 rfl kX12_239 c2 (Or.inl rfl) ?_
    refine PW.nameF (fun F1 eF1 => ?_)
    replace h := h F1 eF1
    obtain ⟨c4, h⟩ := h
    refine n_iinc (q := 95) (lv' := [(3, (0, x3 + 3)), (0, (2, x0)), (1, (0, x1)), (2, (0, x2))]) 57 3 rfl rfl c4 rfl ?_
    refine s_goto (tgt := 35) 58 rfl rfl ?_
    refine PW.pick [1, 2, 3, 0] rfl ?_
    exact h
  · skip
    have b1 := hb
    replace h := h.2 hb
    obtain ⟨c5, h⟩ := h
    refine n_iinc (q := 79) (lv' := [(2, (0, x2 + 1)), (0, (2, x0)), (1, (0, x1)), (3, (0, x3))]) 49 2 rfl rfl c5 rfl ?_
    refine s_goto (tgt := 92) 50 rfl rfl ?_
    obtain ⟨c6, h⟩ := h
    refine n_iinc (q := 95) (lv' := [(3, (0, x3 + 3)), (2, (0, x2 + 1)), (0, (2, x0)), (1, (0, x1))]) 57 3 rfl rfl c6 rfl ?_
    refine s_goto (tgt := 35) 58 rfl rfl ?_
    refine PW.pick [2, 3, 1, 0] rfl ?_
    exact h
theorem vX12_row_108 {l : Launch} {G : pG} {bg : Nat × Nat} {n : Nat} {K : Int → Nat × Nat} {F E : Int → Int → Int} {Q : Option pV → pM → Prop} (s0 : Int) (h : Q (some (0, s0)) (n, K, F, E)) : PW l G 8 mX12_row bg 108 [] [(0, s0)] (n, K, F, E) Q := by
  exact s_iret 65 rfl rfl h
theorem vX12_strays_0 {l : Launch} {G : pG} {bg : Nat × Nat} {n : Nat} {K : Int → Nat × Nat} {F E : Int → Int → Int} {Q : Option pV → pM → Prop} (x0 : Int) (h : (K x0).1 = 12 ∧ (∀ F1, F1 = pUp F x0 0 0 → Q (some (0, F x0 11)) (n, K, F1, E))) : PW l G 0 mX12_strays bg 0 [(0, (2, x0))] [] (n, K, F, E) Q := by
  refine s_aload_n (q := 1) 0 0 rfl rfl ?_
  refine s_iconst (q := 2) 1 rfl ?_
  obtain ⟨c1, h⟩ := h
  refine n_putf (q := 5) (jj := 0) 2 12 0 rfl kX12_174 c1 (Or.inl rfl) ?_
  refine PW.nameF (fun F1 eF1 => ?_)
  replace h := h F1 eF1
  refine s_aload_n (q := 6) 3 0 rfl rfl ?_
  refine n_getf (q := 9) (jj := 11) 4 12 11 rfl kX12_239 c1 ?_
  refine PW.top (b := F x0 11) (by exact (congrFun (congrFun eF1 _) _).trans (pUp_k (by decide))) ?_
  exact s_iret 5 rfl rfl h
theorem vX12_four_0 {l : Launch} {G : pG} {bg : Nat × Nat} {n : Nat} {K : Int → Nat × Nat} {F E : Int → Int → Int} {Q : Option pV → pM → Prop} (x0 x1 : Int) (h : PW l G 0 mX12_four bg 3 [(0, (2, x0)), (1, (0, x1)), (2, (0, 24))] [] (n, K, F, E) Q) : PW l G 0 mX12_four bg 0 [(0, (2, x0)), (1, (0, x1))] [] (n, K, F, E) Q := by
  refine s_bipush (q := 2) 0 rfl ?_
  refine s_istore_n (q := 3) (lv' := [(2, (0, 24)), (0, (2, x0)), (1, (0, x1))]) 1 rfl rfl ?_
  refine PW.pick [1, 2, 0] rfl ?_
  exact h
theorem vX12_four_3 {l : Launch} {G : pG} {bg : Nat × Nat} {n : Nat} {K : Int → Nat × Nat} {F E : Int → Int → Int} {Q : Option pV → pM → Prop} (x0 x1 x2 : Int) (h : ((x2 < 0 → Q none (n, K, F, E)) ∧ (¬ (x2 < 0) → (K x0).1 = 12 ∧ (0 : Int) ≤ F x0 12 ∧ (K (F x0 12)).1 = 20 ∧ ((0 : Int) ≤ F x0 13 ∧ F x0 13 < ((K (F x0 12)).2 : Int)) ∧ (∀ E1, E1 = pUp E (F x0 12) (F x0 13) (bAnd (bShr x1 x2) 255) → (-2147483648 ≤ (F x0 13) + 1 ∧ (F x0 13) + 1 < 2147483648) ∧ (∀ F2, F2 = pUp F x0 13 ((F x0 13) + 1) → (-2147483648 ≤ x2 + (-8) ∧ x2 + (-8) < 2147483648) ∧ PW l G 0 mX12_four bg 3 [(0, (2, x0)), (1, (0, x1)), (2, (0, x2 + (-8)))] [] (n, K, F2, E1) Q))))) : PW l G 0 mX12_four bg 3 [(0, (2, x0)), (1, (0, x1)), (2, (0, x2))] [] (n, K, F, E) Q := by
  refine s_iload_n (q := 4) 2 2 rfl rfl ?_
  refine s_if_lt (q := 7) (tgt := 39) 3 rfl rfl (fun hb => ?_) (fun hb => ?_)
  · skip
    have b1 := hb
    replace h := h.1 hb
    exact s_vret 22 rfl rfl h
  · skip
    have b1 := hb
    replace h := h.2 hb
    refine s_aload_n (q := 8) 4 0 rfl rfl ?_
    obtain ⟨c2, h⟩ := h
    refine n_getf (q := 11) (jj := 12) 5 12 12 rfl kX12_35 c2 ?_
    refine s_aload_n (q := 12) 6 0 rfl rfl ?_
    refine n_getf (q := 15) (jj := 13) 7 12 13 rfl kX12_236 c2 ?_
    refine s_iload_n (q := 16) 8 1 rfl rfl ?_
    refine s_iload_n (q := 17) 9 2 rfl rfl ?_
    refine s_ishr (q := 18) 10 rfl ?_
    refine s_sipush (q := 21) 11 rfl ?_
    refine s_iand (q := 22) 12 rfl ?_
    obtain ⟨c3, h⟩ := h
    obtain ⟨c4, h⟩ := h
    obtain ⟨c5, h⟩ := h
    refine n_iast (q := 23) 13 rfl c3 c4 c5 ?_
    refine PW.nameE (fun E1 eE1 => ?_)
    replace h := h E1 eE1
    refine s_aload_n (q := 24) 14 0 rfl rfl ?_
    refine s_dup (q := 25) 15 rfl ?_
    refine n_getf (q := 28) (jj := 13) 16 12 13 rfl kX12_236 c2 ?_
    refine s_iconst (q := 29) 17 rfl ?_
    obtain ⟨c6, h⟩ := h
    refine n_iadd (q := 30) 18 rfl c6 ?_
    refine n_putf (q := 33) (jj := 13) 19 12 13 rfl kX12_236 c2 (Or.inl rfl) ?_
    refine PW.nameF (fun F2 eF2 => ?_)
    replace h := h F2 eF2
    obtain ⟨c7, h⟩ := h
    refine n_iinc (q := 36) (lv' := [(2, (0, x2 + (-8))), (0, (2, x0)), (1, (0, x1))]) 20 2 rfl rfl c7 rfl ?_
    refine s_goto (tgt := 3) 21 rfl rfl ?_
    refine PW.pick [1, 2, 0] rfl ?_
    exact h
theorem vX12_feed_0 {l : Launch} {G : pG} {bg : Nat × Nat} {n : Nat} {K : Int → Nat × Nat} {F E : Int → Int → Int} {Q : Option pV → pM → Prop} (x0 x1 x2 x3 x4 x5 : Int) (h : (K x0).1 = 12 ∧ (∀ F1, F1 = pUp F x0 0 0 → (-2147483648 ≤ (F x0 13) + 20 ∧ (F x0 13) + 20 < 2147483648) ∧ (((F x0 13) + 20 ≤ 400 → PC l G 0 mX12_four (0, 0) [(2, x0), (0, x1)] (n, K, F1, E) (fun r μ => PW l G 1 mX12_feed bg 25 [(0, (2, x0)), (2, (0, x2)), (3, (0, x3)), (4, (0, x4)), (5, (0, x5))] (r.toList ++ []) μ Q)) ∧ (¬ ((F x0 13) + 20 ≤ 400) → Q (some (0, (-1))) (n, K, F1, E))))) : PW l G 1 mX12_feed bg 0 [(0, (2, x0)), (1, (0, x1)), (2, (0, x2)), (3, (0, x3)), (4, (0, x4)), (5, (0, x5))] [] (n, K, F, E) Q := by
  refine s_aload_n (q := 1) 0 0 rfl rfl ?_
  refine s_iconst (q := 2) 1 rfl ?_
  obtain ⟨c1, h⟩ := h
  refine n_putf (q := 5) (jj := 0) 2 12 0 rfl kX12_174 c1 (Or.inl rfl) ?_
  refine PW.nameF (fun F1 eF1 => ?_)
  replace h := h F1 eF1
  refine s_aload_n (q := 6) 3 0 rfl rfl ?_
  refine n_getf (q := 9) (jj := 13) 4 12 13 rfl kX12_236 c1 ?_
  refine PW.top (b := F x0 13) (by exact (congrFun (congrFun eF1 _) _).trans (pUp_k (by decide))) ?_
  refine s_bipush (q := 11) 5 rfl ?_
  obtain ⟨c2, h⟩ := h
  refine n_iadd (q := 12) 6 rfl c2 ?_
  refine s_sipush (q := 15) 7 rfl ?_
  refine s_icmp_le (q := 18) (tgt := 20) 8 rfl rfl (fun hb => ?_) (fun hb => ?_)
  · skip
    have b3 := hb
    replace h := h.1 hb
    refine s_aload_n (q := 21) 11 0 rfl rfl ?_
    refine s_iload_n (q := 22) 12 1 rfl rfl ?_
    refine PW.pick [0, 2, 3, 4, 5] rfl ?_
    exact n_callV (N := mX12_four) (as := [(0, x1)]) (st := []) (q := 25) (d' := 0) 13 rfl uX12_four kX12_246 rfl c1 h
  · skip
    have b3 := hb
    replace h := h.2 hb
    refine s_iconst (q := 19) 9 rfl ?_
    exact s_iret 10 rfl rfl h
theorem vX12_feed_25 {l : Launch} {G : pG} {bg : Nat × Nat} {n : Nat} {K : Int → Nat × Nat} {F E : Int → Int → Int} {Q : Option pV → pM → Prop} (x0 x2 x3 x4 x5 : Int) (h : (K x0).1 = 12 ∧ PC l G 0 mX12_four (0, 0) [(2, x0), (0, x2)] (n, K, F, E) (fun r μ => PW l G 1 mX12_feed bg 30 [(0, (2, x0)), (3, (0, x3)), (4, (0, x4)), (5, (0, x5))] (r.toList ++ []) μ Q)) : PW l G 1 mX12_feed bg 25 [(0, (2, x0)), (2, (0, x2)), (3, (0, x3)), (4, (0, x4)), (5, (0, x5))] [] (n, K, F, E) Q := by
  refine s_aload_n (q := 26) 14 0 rfl rfl ?_
  refine s_iload_n (q := 27) 15 1 rfl rfl ?_
  obtain ⟨c1, h⟩ := h
  refine PW.pick [0, 2, 3, 4] rfl ?_
  exact n_callV (N := mX12_four) (as := [(0, x2)]) (st := []) (q := 30) (d' := 0) 16 rfl uX12_four kX12_246 rfl c1 h
theorem vX12_feed_30 {l : Launch} {G : pG} {bg : Nat × Nat} {n : Nat} {K : Int → Nat × Nat} {F E : Int → Int → Int} {Q : Option pV → pM → Prop} (x0 x3 x4 x5 : Int) (h : (K x0).1 = 12 ∧ PC l G 0 mX12_four (0, 0) [(2, x0), (0, x3)] (n, K, F, E) (fun r μ => PW l G 1 mX12_feed bg 35 [(0, (2, x0)), (4, (0, x4)), (5, (0, x5))] (r.toList ++ []) μ Q)) : PW l G 1 mX12_feed bg 30 [(0, (2, x0)), (3, (0, x3)), (4, (0, x4)), (5, (0, x5))] [] (n, K, F, E) Q := by
  refine s_aload_n (q := 31) 17 0 rfl rfl ?_
  refine s_iload_n (q := 32) 18 1 rfl rfl ?_
  obtain ⟨c1, h⟩ := h
  refine PW.pick [0, 2, 3] rfl ?_
  exact n_callV (N := mX12_four) (as := [(0, x3)]) (st := []) (q := 35) (d' := 0) 19 rfl uX12_four kX12_246 rfl c1 h
theorem vX12_feed_35 {l : Launch} {G : pG} {bg : Nat × Nat} {n : Nat} {K : Int → Nat × Nat} {F E : Int → Int → Int} {Q : Option pV → pM → Prop} (x0 x4 x5 : Int) (h : (K x0).1 = 12 ∧ PC l G 0 mX12_four (0, 0) [(2, x0), (0, x4)] (n, K, F, E) (fun r μ => PW l G 1 mX12_feed bg 41 [(0, (2, x0)), (5, (0, x5))] (r.toList ++ []) μ Q)) : PW l G 1 mX12_feed bg 35 [(0, (2, x0)), (4, (0, x4)), (5, (0, x5))] [] (n, K, F, E) Q := by
  refine s_aload_n (q := 36) 20 0 rfl rfl ?_
  refine s_iload (q := 38) 21 1 rfl rfl ?_
  obtain ⟨c1, h⟩ := h
  refine PW.pick [0, 2] rfl ?_
  exact n_callV (N := mX12_four) (as := [(0, x4)]) (st := []) (q := 41) (d' := 0) 22 rfl uX12_four kX12_246 rfl c1 h
theorem vX12_feed_41 {l : Launch} {G : pG} {bg : Nat × Nat} {n : Nat} {K : Int → Nat × Nat} {F E : Int → Int → Int} {Q : Option pV → pM → Prop} (x0 x5 : Int) (h : (K x0).1 = 12 ∧ PC l G 0 mX12_four (0, 0) [(2, x0), (0, x5)] (n, K, F, E) (fun r μ => PW l G 1 mX12_feed bg 47 [(0, (2, x0))] (r.toList ++ []) μ Q)) : PW l G 1 mX12_feed bg 41 [(0, (2, x0)), (5, (0, x5))] [] (n, K, F, E) Q := by
  refine s_aload_n (q := 42) 23 0 rfl rfl ?_
  refine s_iload (q := 44) 24 1 rfl rfl ?_
  obtain ⟨c1, h⟩ := h
  refine PW.pick [0] rfl ?_
  exact n_callV (N := mX12_four) (as := [(0, x5)]) (st := []) (q := 47) (d' := 0) 25 rfl uX12_four kX12_246 rfl c1 h
theorem vX12_feed_47 {l : Launch} {G : pG} {bg : Nat × Nat} {n : Nat} {K : Int → Nat × Nat} {F E : Int → Int → Int} {Q : Option pV → pM → Prop} (x0 : Int) (h : (K x0).1 = 12 ∧ Q (some (0, F x0 13)) (n, K, F, E)) : PW l G 1 mX12_feed bg 47 [(0, (2, x0))] [] (n, K, F, E) Q := by
  refine s_aload_n (q := 48) 26 0 rfl rfl ?_
  obtain ⟨c1, h⟩ := h
  refine n_getf (q := 51) (jj := 13) 27 12 13 rfl kX12_236 c1 ?_
  exact s_iret 28 rfl rfl h
theorem vX12_end_0 {l : Launch} {G : pG} {bg : Nat × Nat} {n : Nat} {K : Int → Nat × Nat} {F E : Int → Int → Int} {Q : Option pV → pM → Prop} (x0 x1 : Int) (h : (K x0).1 = 12 ∧ (∀ F1, F1 = pUp F x0 0 0 → ((x1 < 0 → Q (some (0, (-1))) (n, K, F1, E)) ∧ (¬ (x1 < 0) → ((x1 ≤ F x0 13 → (∀ F2, F2 = pUp F1 x0 13 x1 → Q (some (0, x1)) (n, K, F2, E))) ∧ (¬ (x1 ≤ F x0 13) → Q (some (0, (-1))) (n, K, F1, E))))))) : PW l G 0 mX12_end bg 0 [(0, (2, x0)), (1, (0, x1))] [] (n, K, F, E) Q := by
  refine s_aload_n (q := 1) 0 0 rfl rfl ?_
  refine s_iconst (q := 2) 1 rfl ?_
  obtain ⟨c1, h⟩ := h
  refine n_putf (q := 5) (jj := 0) 2 12 0 rfl kX12_174 c1 (Or.inl rfl) ?_
  refine PW.nameF (fun F1 eF1 => ?_)
  replace h := h F1 eF1
  refine s_iload_n (q := 6) 3 1 rfl rfl ?_
  refine s_if_lt (q := 9) (tgt := 17) 4 rfl rfl (fun hb => ?_) (fun hb => ?_)
  · skip
    have b2 := hb
    replace h := h.1 hb
    refine s_iconst (q := 18) 9 rfl ?_
    exact s_iret 10 rfl rfl h
  · skip
    have b2 := hb
    replace h := h.2 hb
    refine s_iload_n (q := 10) 5 1 rfl rfl ?_
    refine s_aload_n (q := 11) 6 0 rfl rfl ?_
    refine n_getf (q := 14) (jj := 13) 7 12 13 rfl kX12_236 c1 ?_
    refine PW.top (b := F x0 13) (by exact (congrFun (congrFun eF1 _) _).trans (pUp_k (by decide))) ?_
    refine s_icmp_le (q := 17) (tgt := 19) 8 rfl rfl (fun hb => ?_) (fun hb => ?_)
    · skip
      have b3 := hb
      replace h := h.1 hb
      refine s_aload_n (q := 20) 11 0 rfl rfl ?_
      refine s_iload_n (q := 21) 12 1 rfl rfl ?_
      refine n_putf (q := 24) (jj := 13) 13 12 13 rfl kX12_236 c1 (Or.inl rfl) ?_
      refine PW.nameF (fun F2 eF2 => ?_)
      replace h := h F2 eF2
      refine s_iload_n (q := 25) 14 1 rfl rfl ?_
      exact s_iret 15 rfl rfl h
    · skip
      have b3 := hb
      replace h := h.2 hb
      refine s_iconst (q := 18) 9 rfl ?_
      exact s_iret 10 rfl rfl h
theorem vX12_begin_0 {l : Launch} {G : pG} {bg : Nat × Nat} {n : Nat} {K : Int → Nat × Nat} {F E : Int → Int → Int} {Q : Option pV → pM → Prop} (x0 : Int) (h : (K x0).1 = 12 ∧ (∀ F1, F1 = pUp F x0 15 0 → (∀ F2, F2 = pUp F1 x0 19 0 → (∀ F3, F3 = pUp F2 x0 18 (-1) → PC l G 1 mX12_next (0, 0) [(2, x0)] (n, K, F3, E) (fun r μ => PW l G 2 mX12_begin bg 19 [] (r.toList ++ []) μ Q))))) : PW l G 2 mX12_begin bg 0 [(0, (2, x0))] [] (n, K, F, E) Q := by
  refine s_aload_n (q := 1) 0 0 rfl rfl ?_
  refine s_iconst (q := 2) 1 rfl ?_
  obtain ⟨c1, h⟩ := h
  refine n_putf (q := 5) (jj := 15) 2 12 15 rfl kX12_249 c1 (Or.inl rfl) ?_
  refine PW.nameF (fun F1 eF1 => ?_)
  replace h := h F1 eF1
  refine s_aload_n (q := 6) 3 0 rfl rfl ?_
  refine s_iconst (q := 7) 4 rfl ?_
  refine n_putf (q := 10) (jj := 19) 5 12 19 rfl kX12_252 c1 (Or.inr (Or.inr (Or.inl ⟨rfl, (by decide)⟩))) ?_
  refine PW.nameF (fun F2 eF2 => ?_)
  replace h := h F2 eF2
  refine s_aload_n (q := 11) 6 0 rfl rfl ?_
  refine s_iconst (q := 12) 7 rfl ?_
  refine n_putf (q := 15) (jj := 18) 8 12 18 rfl kX12_38 c1 (Or.inl rfl) ?_
  refine PW.nameF (fun F3 eF3 => ?_)
  replace h := h F3 eF3
  refine s_aload_n (q := 16) 9 0 rfl rfl ?_
  refine PW.pick [] rfl ?_
  exact n_callV (N := mX12_next) (as := []) (st := []) (q := 19) (d' := 1) 10 rfl uX12_next kX12_256 rfl c1 h
theorem vX12_begin_19 {l : Launch} {G : pG} {bg : Nat × Nat} {n : Nat} {K : Int → Nat × Nat} {F E : Int → Int → Int} {Q : Option pV → pM → Prop} (h : Q none (n, K, F, E)) : PW l G 2 mX12_begin bg 19 [] [] (n, K, F, E) Q := by
  exact s_vret 11 rfl rfl h
