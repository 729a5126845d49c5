theorem vX12_indexNow_0 {l : Launch} {G : pG} {bg : Nat × Nat} {n : Nat} {K : Int → Nat × Nat} {F E : Int → Int → Int} {Q : Option pV → pM → Prop} (x0 x1 x2 : Int) (h : ((¬ (0 ≤ x1 ∧ x1 < 3) → Q (some (0, (-1))) (n, K, F, E)) ∧ (0 ≤ x1 ∧ x1 < 3 → ((0 ≤ x2 ∧ x2 ≤ 2 → (K x0).1 = 12 ∧ (-2147483648 ≤ 12 + x1 ∧ 12 + x1 < 2147483648) ∧ (K (F x0 3)).1 = 20 ∧ ((0 : Int) ≤ 12 + x1 ∧ 12 + x1 < ((K (F x0 3)).2 : Int)) ∧ ((¬ (E (F x0 3) (12 + x1)) = x2 → PC l G 1 mX12_remember (0, 0) [(2, x0), (0, 4)] (n, K, F, E) (fun r μ => PW l G 2 mX12_indexNow bg 44 [(0, (2, x0)), (1, (0, x1)), (2, (0, x2)), (3, (0, E (F x0 3) (12 + x1)))] (r.toList ++ []) μ Q)) ∧ ((E (F x0 3) (12 + x1)) = x2 → Q (some (0, (-3))) (n, K, F, E)))) ∧ (¬ (0 ≤ x2 ∧ x2 ≤ 2) → Q (some (0, (-1))) (n, K, F, E)))))) : PW l G 2 mX12_indexNow bg 0 [(0, (2, x0)), (1, (0, x1)), (2, (0, x2))] [] (n, K, F, E) Q := by
  refine s_iload_n (q := 1) 0 1 rfl rfl ?_
  refine n_callS (N := mX12_isRelation) (as := [(0, x1)]) (st := []) (q := 4) (d' := 1) 1 rfl uX12_isRelation kX12_201 rfl (pX12_isRelation ?_)
  show PW l G 2 mX12_indexNow bg 4 [(0, (2, x0)), (1, (0, x1)), (2, (0, x2))] [(0, bI (0 ≤ x1 ∧ x1 < 3))] (n, K, F, E) Q
  refine s_if_eq (q := 7) (tgt := 19) 2 rfl rfl (fun hb => ?_) (fun hb => ?_)
  · have hb := bI_f hb
    have b1 := hb
    replace h := h.1 hb
    refine s_iconst (q := 20) 9 rfl ?_
    exact s_iret 10 rfl rfl h
  · have hb := bI_t hb
    have b1 := hb
    replace h := h.2 hb
    refine s_iload_n (q := 8) 3 2 rfl rfl ?_
    refine s_i2l (q := 9) 4 rfl ?_
    refine s_lconst (q := 10) (x := 0) 5 rfl ?_
    refine s_ldc2 (q := 13) (x := 2) 6 rfl kX12_61 ?_
    refine n_callS (N := mX12_in) (as := [(1, x2), (1, 0), (1, 2)]) (st := []) (q := 16) (d' := 0) 7 rfl uX12_in kX12_197 rfl (pX12_in ?_)
    show PW l G 2 mX12_indexNow bg 16 [(0, (2, x0)), (1, (0, x1)), (2, (0, x2))] [(0, bI (0 ≤ x2 ∧ x2 ≤ 2))] (n, K, F, E) Q
    refine s_if_ne (q := 19) (tgt := 21) 8 rfl rfl (fun hb => ?_) (fun hb => ?_)
    · have hb := bI_t hb
      have b2 := hb
      replace h := h.1 hb
      refine s_aload_n (q := 22) 11 0 rfl rfl ?_
      obtain ⟨c3, h⟩ := h
      refine n_getf (q := 25) (jj := 3) 12 12 3 rfl kX12_13 c3 ?_
      refine s_bipush (q := 27) 13 rfl ?_
      refine s_iload_n (q := 28) 14 1 rfl rfl ?_
      obtain ⟨c4, h⟩ := h
      refine n_iadd (q := 29) 15 rfl c4 ?_
      obtain ⟨c5, h⟩ := h
      obtain ⟨c6, h⟩ := h
      refine n_iald (q := 30) 16 rfl c5 c6 ?_
      refine s_istore_n (q := 31) (lv' := [(3, (0, E (F x0 3) (12 + x1))), (0, (2, x0)), (1, (0, x1)), (2, (0, x2))]) 17 rfl rfl ?_
      refine s_iload_n (q := 32) 18 0 rfl rfl ?_
      refine s_iload_n (q := 33) 19 3 rfl rfl ?_
      refine s_icmp_ne (q := 36) (tgt := 39) 20 rfl rfl (fun hb => ?_) (fun hb => ?_)
      · skip
        have b7 := hb
        replace h := h.1 hb
        refine s_aload_n (q := 40) 23 1 rfl rfl ?_
        refine s_iconst (q := 41) 24 rfl ?_
        refine PW.pick [1, 2, 3, 0] rfl ?_
        exact n_callV (N := mX12_remember) (as := [(0, 4)]) (st := []) (q := 44) (d' := 1) 25 rfl uX12_remember kX12_207 rfl c3 h
      · have hb := Classical.not_not.mp hb
        have b7 := hb
        replace h := h.2 hb
        refine s_bipush (q := 38) 21 rfl ?_
        exact s_iret 22 rfl rfl h
    · have hb := bI_f2 hb
      have b2 := hb
      replace h := h.2 hb
      refine s_iconst (q := 20) 9 rfl ?_
      exact s_iret 10 rfl rfl h
theorem vX12_indexNow_44 {l : Launch} {G : pG} {bg : Nat × Nat} {n : Nat} {K : Int → Nat × Nat} {F E : Int → Int → Int} {Q : Option pV → pM → Prop} (x0 x1 x2 x3 : Int) (h : (K x0).1 = 12 ∧ (-2147483648 ≤ 12 + x1 ∧ 12 + x1 < 2147483648) ∧ (0 : Int) ≤ F x0 3 ∧ (K (F x0 3)).1 = 20 ∧ ((0 : Int) ≤ 12 + x1 ∧ 12 + x1 < ((K (F x0 3)).2 : Int)) ∧ (∀ E1, E1 = pUp E (F x0 3) (12 + x1) x2 → Q (some (0, x3)) (n, K, F, E1))) : PW l G 2 mX12_indexNow bg 44 [(0, (2, x0)), (1, (0, x1)), (2, (0, x2)), (3, (0, x3))] [] (n, K, F, E) Q := by
  refine s_aload_n (q := 45) 26 0 rfl rfl ?_
  obtain ⟨c1, h⟩ := h
  refine n_getf (q := 48) (jj := 3) 27 12 3 rfl kX12_13 c1 ?_
  refine s_bipush (q := 50) 28 rfl ?_
  refine s_iload_n (q := 51) 29 1 rfl rfl ?_
  obtain ⟨c2, h⟩ := h
  refine n_iadd (q := 52) 30 rfl c2 ?_
  refine s_iload_n (q := 53) 31 2 rfl rfl ?_
  obtain ⟨c3, h⟩ := h
  obtain ⟨c4, h⟩ := h
  obtain ⟨c5, h⟩ := h
  refine n_iast (q := 54) 32 rfl c3 c4 c5 ?_
  refine PW.nameE (fun E1 eE1 => ?_)
  replace h := h E1 eE1
  refine s_iload_n (q := 55) 33 3 rfl rfl ?_
  exact s_iret 34 rfl rfl h
theorem vX12_index_0 {l : Launch} {G : pG} {bg : Nat × Nat} {n : Nat} {K : Int → Nat × Nat} {F E : Int → Int → Int} {Q : Option pV → pM → Prop} (x0 x1 x2 : Int) (h : (K x0).1 = 12 ∧ (∀ F1, F1 = pUp F x0 0 0 → PC l G 2 mX12_indexNow (0, 0) [(2, x0), (0, x1), (0, x2)] (n, K, F1, E) (fun r μ => PW l G 3 mX12_index bg 12 [] (r.toList ++ [(2, x0)]) μ Q))) : PW l G 3 mX12_index bg 0 [(0, (2, x0)), (1, (0, x1)), (2, (0, x2))] [] (n, K, F, E) Q := by
  refine s_aload_n (q := 1) 0 0 rfl rfl ?_
  refine s_iconst (q := 2) 1 rfl ?_
  obtain ⟨c1, h⟩ := h
  refine n_putf (q := 5) (jj := 0) 2 12 0 rfl kX12_174 c1 (Or.inl rfl) ?_
  refine PW.nameF (fun F1 eF1 => ?_)
  replace h := h F1 eF1
  refine s_aload_n (q := 6) 3 0 rfl rfl ?_
  refine s_aload_n (q := 7) 4 0 rfl rfl ?_
  refine s_iload_n (q := 8) 5 1 rfl rfl ?_
  refine s_iload_n (q := 9) 6 2 rfl rfl ?_
  refine PW.pick [] rfl ?_
  exact n_callV (N := mX12_indexNow) (as := [(0, x1), (0, x2)]) (st := [(2, x0)]) (q := 12) (d' := 2) 7 rfl uX12_indexNow kX12_545 rfl c1 h
theorem vX12_index_12 {l : Launch} {G : pG} {bg : Nat × Nat} {n : Nat} {K : Int → Nat × Nat} {F E : Int → Int → Int} {Q : Option pV → pM → Prop} (s0 s1 : Int) (h : (K s1).1 = 12 ∧ PC l G 0 mX12_tell (0, 0) [(2, s1), (0, s0)] (n, K, F, E) (fun r μ => PW l G 3 mX12_index bg 15 [] (r.toList ++ []) μ Q)) : PW l G 3 mX12_index bg 12 [] [(0, s0), (2, s1)] (n, K, F, E) Q := by
  obtain ⟨c1, h⟩ := h
  refine PW.pick [] rfl ?_
  exact n_callV (N := mX12_tell) (as := [(0, s0)]) (st := []) (q := 15) (d' := 0) 8 rfl uX12_tell kX12_190 rfl c1 h
theorem vX12_index_15 {l : Launch} {G : pG} {bg : Nat × Nat} {n : Nat} {K : Int → Nat × Nat} {F E : Int → Int → Int} {Q : Option pV → pM → Prop} (s0 : Int) (h : Q (some (0, s0)) (n, K, F, E)) : PW l G 3 mX12_index bg 15 [] [(0, s0)] (n, K, F, E) Q := by
  exact s_iret 9 rfl rfl h
theorem vX12_result_0 {l : Launch} {G : pG} {bg : Nat × Nat} {n : Nat} {K : Int → Nat × Nat} {F E : Int → Int → Int} {Q : Option pV → pM → Prop} (x0 x1 x2 : Int) (h : (K x0).1 = 12 ∧ (∀ F1, F1 = pUp F x0 0 0 → (-9223372036854775808 ≤ (F x0 59) - 1 ∧ (F x0 59) - 1 < 9223372036854775808) ∧ ((¬ (0 ≤ x1 ∧ x1 ≤ (F x0 59) - 1) → Q (some (0, (-1))) (n, K, F1, E)) ∧ (0 ≤ x1 ∧ x1 ≤ (F x0 59) - 1 → ((¬ (0 ≤ x1 ∧ x1 ≤ 98) → Q (some (0, (-1))) (n, K, F1, E)) ∧ (0 ≤ x1 ∧ x1 ≤ 98 → ((0 ≤ x2 ∧ x2 < 3 → (-2147483648 ≤ 3 * x1 ∧ 3 * x1 < 2147483648) ∧ (-2147483648 ≤ (3 * x1) + x2 ∧ (3 * x1) + x2 < 2147483648) ∧ (K (F x0 58)).1 = 20 ∧ ((0 : Int) ≤ (3 * x1) + x2 ∧ (3 * x1) + x2 < ((K (F x0 58)).2 : Int)) ∧ ((¬ (E (F x0 58) ((3 * x1) + x2)) = 0 → Q (some (0, E (F x0 58) ((3 * x1) + x2))) (n, K, F1, E)) ∧ ((E (F x0 58) ((3 * x1) + x2)) = 0 → Q (some (0, (-1))) (n, K, F1, E)))) ∧ (¬ (0 ≤ x2 ∧ x2 < 3) → Q (some (0, (-1))) (n, K, F1, E))))))))) : PW l G 2 mX12_result bg 0 [(0, (2, x0)), (1, (0, x1)), (2, (0, x2))] [] (n, K, F, E) Q := by
  refine s_aload_n (q := 1) 0 0 rfl rfl ?_
  refine s_iconst (q := 2) 1 rfl ?_
  obtain ⟨c1, h⟩ := h
  refine n_putf (q := 5) (jj := 0) 2 12 0 rfl kX12_174 c1 (Or.inl rfl) ?_
  refine PW.nameF (fun F1 eF1 => ?_)
  replace h := h F1 eF1
  refine s_iload_n (q := 6) 3 1 rfl rfl ?_
  refine s_i2l (q := 7) 4 rfl ?_
  refine s_lconst (q := 8) (x := 0) 5 rfl ?_
  refine s_aload_n (q := 9) 6 0 rfl rfl ?_
  refine n_getf (q := 12) (jj := 59) 7 12 59 rfl kX12_530 c1 ?_
  refine PW.top (b := F x0 59) (by exact (congrFun (congrFun eF1 _) _).trans (pUp_k (by decide))) ?_
  refine s_i2l (q := 13) 8 rfl ?_
  refine s_lconst (q := 14) (x := 1) 9 rfl ?_
  obtain ⟨c2, h⟩ := h
  refine n_lsub (q := 15) 10 rfl c2 ?_
  refine n_callS (N := mX12_in) (as := [(1, x1), (1, 0), (1, (F x0 59) - 1)]) (st := []) (q := 18) (d' := 0) 11 rfl uX12_in kX12_197 rfl (pX12_in ?_)
  show PW l G 2 mX12_result bg 18 [(0, (2, x0)), (1, (0, x1)), (2, (0, x2))] [(0, bI (0 ≤ x1 ∧ x1 ≤ (F x0 59) - 1))] (n, K, F1, E) Q
  refine s_if_eq (q := 21) (tgt := 40) 12 rfl rfl (fun hb => ?_) (fun hb => ?_)
  · have hb := bI_f hb
    have b3 := hb
    replace h := h.1 hb
    refine s_iconst (q := 41) 22 rfl ?_
    exact s_iret 23 rfl rfl h
  · have hb := bI_t hb
    have b3 := hb
    replace h := h.2 hb
    refine s_iload_n (q := 22) 13 1 rfl rfl ?_
    refine s_i2l (q := 23) 14 rfl ?_
    refine s_lconst (q := 24) (x := 0) 15 rfl ?_
    refine s_ldc2 (q := 27) (x := 98) 16 rfl kX12_548 ?_
    refine n_callS (N := mX12_in) (as := [(1, x1), (1, 0), (1, 98)]) (st := []) (q := 30) (d' := 0) 17 rfl uX12_in kX12_197 rfl (pX12_in ?_)
    show PW l G 2 mX12_result bg 30 [(0, (2, x0)), (1, (0, x1)), (2, (0, x2))] [(0, bI (0 ≤ x1 ∧ x1 ≤ 98))] (n, K, F1, E) Q
    refine s_if_eq (q := 33) (tgt := 40) 18 rfl rfl (fun hb => ?_) (fun hb => ?_)
    · have hb := bI_f hb
      have b4 := hb
      replace h := h.1 hb
      refine s_iconst (q := 41) 22 rfl ?_
      exact s_iret 23 rfl rfl h
    · have hb := bI_t hb
      have b4 := hb
      replace h := h.2 hb
      refine s_iload_n (q := 34) 19 2 rfl rfl ?_
      refine n_callS (N := mX12_isRelation) (as := [(0, x2)]) (st := []) (q := 37) (d' := 1) 20 rfl uX12_isRelation kX12_201 rfl (pX12_isRelation ?_)
      show PW l G 2 mX12_result bg 37 [(0, (2, x0)), (1, (0, x1)), (2, (0, x2))] [(0, bI (0 ≤ x2 ∧ x2 < 3))] (n, K, F1, E) Q
      refine s_if_ne (q := 40) (tgt := 42) 21 rfl rfl (fun hb => ?_) (fun hb => ?_)
      · have hb := bI_t hb
        have b5 := hb
        replace h := h.1 hb
        refine s_aload_n (q := 43) 24 0 rfl rfl ?_
        refine n_getf (q := 46) (jj := 58) 25 12 58 rfl kX12_136 c1 ?_
        refine PW.top (b := F x0 58) (by exact (congrFun (congrFun eF1 _) _).trans (pUp_k (by decide))) ?_
        refine s_iconst (q := 47) 26 rfl ?_
        refine s_iload_n (q := 48) 27 1 rfl rfl ?_
        obtain ⟨c6, h⟩ := h
        refine n_imul (q := 49) 28 rfl c6 ?_
        refine s_iload_n (q := 50) 29 2 rfl rfl ?_
        obtain ⟨c7, h⟩ := h
        refine n_iadd (q := 51) 30 rfl c7 ?_
        obtain ⟨c8, h⟩ := h
        obtain ⟨c9, h⟩ := h
        refine n_iald (q := 52) 31 rfl c8 c9 ?_
        refine s_istore_n (q := 53) (lv' := [(3, (0, E (F x0 58) ((3 * x1) + x2))), (0, (2, x0)), (1, (0, x1)), (2, (0, x2))]) 32 rfl rfl ?_
        refine s_iload_n (q := 54) 33 0 rfl rfl ?_
        refine s_if_ne (q := 57) (tgt := 61) 34 rfl rfl (fun hb => ?_) (fun hb => ?_)
        · skip
          have b10 := hb
          replace h := h.1 hb
          refine s_iload_n (q := 62) 37 0 rfl rfl ?_
          exact s_iret 38 rfl rfl h
        · have hb := Classical.not_not.mp hb
          have b10 := hb
          replace h := h.2 hb
          refine s_iconst (q := 58) 35 rfl ?_
          refine s_goto (tgt := 62) 36 rfl rfl ?_
          exact s_iret 38 rfl rfl h
      · have hb := bI_f2 hb
        have b5 := hb
        replace h := h.2 hb
        refine s_iconst (q := 41) 22 rfl ?_
        exact s_iret 23 rfl rfl h
theorem vX12_shut_0 {l : Launch} {G : pG} {bg : Nat × Nat} {n : Nat} {K : Int → Nat × Nat} {F E : Int → Int → Int} {Q : Option pV → pM → Prop} (x0 x1 : Int) (h : (K x0).1 = 12 ∧ (∀ F1, F1 = pUp F x0 0 0 → (-9223372036854775808 ≤ (F x0 61) - 1 ∧ (F x0 61) - 1 < 9223372036854775808) ∧ ((¬ (0 ≤ x1 ∧ x1 ≤ (F x0 61) - 1) → Q (some (0, (-1))) (n, K, F1, E)) ∧ (0 ≤ x1 ∧ x1 ≤ (F x0 61) - 1 → ((¬ (0 ≤ x1 ∧ x1 ≤ 98) → Q (some (0, (-1))) (n, K, F1, E)) ∧ (0 ≤ x1 ∧ x1 ≤ 98 → (K (F x0 60)).1 = 20 ∧ ((0 : Int) ≤ x1 ∧ x1 < ((K (F x0 60)).2 : Int)) ∧ Q (some (0, E (F x0 60) x1)) (n, K, F1, E))))))) : PW l G 1 mX12_shut bg 0 [(0, (2, x0)), (1, (0, x1))] [] (n, K, F, E) Q := by
  refine s_aload_n (q := 1) 0 0 rfl rfl ?_
  refine s_iconst (q := 2) 1 rfl ?_
  obtain ⟨c1, h⟩ := h
  refine n_putf (q := 5) (jj := 0) 2 12 0 rfl kX12_174 c1 (Or.inl rfl) ?_
  refine PW.nameF (fun F1 eF1 => ?_)
  replace h := h F1 eF1
  refine s_iload_n (q := 6) 3 1 rfl rfl ?_
  refine s_i2l (q := 7) 4 rfl ?_
  refine s_lconst (q := 8) (x := 0) 5 rfl ?_
  refine s_aload_n (q := 9) 6 0 rfl rfl ?_
  refine n_getf (q := 12) (jj := 61) 7 12 61 rfl kX12_533 c1 ?_
  refine PW.top (b := F x0 61) (by exact (congrFun (congrFun eF1 _) _).trans (pUp_k (by decide))) ?_
  refine s_i2l (q := 13) 8 rfl ?_
  refine s_lconst (q := 14) (x := 1) 9 rfl ?_
  obtain ⟨c2, h⟩ := h
  refine n_lsub (q := 15) 10 rfl c2 ?_
  refine n_callS (N := mX12_in) (as := [(1, x1), (1, 0), (1, (F x0 61) - 1)]) (st := []) (q := 18) (d' := 0) 11 rfl uX12_in kX12_197 rfl (pX12_in ?_)
  show PW l G 1 mX12_shut bg 18 [(0, (2, x0)), (1, (0, x1))] [(0, bI (0 ≤ x1 ∧ x1 ≤ (F x0 61) - 1))] (n, K, F1, E) Q
  refine s_if_eq (q := 21) (tgt := 42) 12 rfl rfl (fun hb => ?_) (fun hb => ?_)
  · have hb := bI_f hb
    have b3 := hb
    replace h := h.1 hb
    refine s_iconst (q := 43) 24 rfl ?_
    exact s_iret 25 rfl rfl h
  · have hb := bI_t hb
    have b3 := hb
    replace h := h.2 hb
    refine s_iload_n (q := 22) 13 1 rfl rfl ?_
    refine s_i2l (q := 23) 14 rfl ?_
    refine s_lconst (q := 24) (x := 0) 15 rfl ?_
    refine s_ldc2 (q := 27) (x := 98) 16 rfl kX12_548 ?_
    refine n_callS (N := mX12_in) (as := [(1, x1), (1, 0), (1, 98)]) (st := []) (q := 30) (d' := 0) 17 rfl uX12_in kX12_197 rfl (pX12_in ?_)
    show PW l G 1 mX12_shut bg 30 [(0, (2, x0)), (1, (0, x1))] [(0, bI (0 ≤ x1 ∧ x1 ≤ 98))] (n, K, F1, E) Q
    refine s_if_eq (q := 33) (tgt := 42) 18 rfl rfl (fun hb => ?_) (fun hb => ?_)
    · have hb := bI_f hb
      have b4 := hb
      replace h := h.1 hb
      refine s_iconst (q := 43) 24 rfl ?_
      exact s_iret 25 rfl rfl h
    · have hb := bI_t hb
      have b4 := hb
      replace h := h.2 hb
      refine s_aload_n (q := 34) 19 0 rfl rfl ?_
      refine n_getf (q := 37) (jj := 60) 20 12 60 rfl kX12_139 c1 ?_
      refine PW.top (b := F x0 60) (by exact (congrFun (congrFun eF1 _) _).trans (pUp_k (by decide))) ?_
      refine s_iload_n (q := 38) 21 1 rfl rfl ?_
      obtain ⟨c5, h⟩ := h
      obtain ⟨c6, h⟩ := h
      refine n_iald (q := 39) 22 rfl c5 c6 ?_
      refine s_goto (tgt := 43) 23 rfl rfl ?_
      exact s_iret 25 rfl rfl h
theorem vX12_deepest_0 {l : Launch} {G : pG} {bg : Nat × Nat} {n : Nat} {K : Int → Nat × Nat} {F E : Int → Int → Int} {Q : Option pV → pM → Prop} (x0 : Int) (h : (K x0).1 = 12 ∧ (∀ F1, F1 = pUp F x0 0 0 → Q (some (0, F x0 62)) (n, K, F1, E))) : PW l G 0 mX12_deepest bg 0 [(0, (2, x0))] [] (n, K, F, E) Q := by
  refine s_aload_n (q := 1) 0 0 rfl rfl ?_
  refine s_iconst (q := 2) 1 rfl ?_
  obtain ⟨c1, h⟩ := h
  refine n_putf (q := 5) (jj := 0) 2 12 0 rfl kX12_174 c1 (Or.inl rfl) ?_
  refine PW.nameF (fun F1 eF1 => ?_)
  replace h := h F1 eF1
  refine s_aload_n (q := 6) 3 0 rfl rfl ?_
  refine n_getf (q := 9) (jj := 62) 4 12 62 rfl kX12_536 c1 ?_
  refine PW.top (b := F x0 62) (by exact (congrFun (congrFun eF1 _) _).trans (pUp_k (by decide))) ?_
  exact s_iret 5 rfl rfl h
theorem vX12_costNow_0 {l : Launch} {G : pG} {bg : Nat × Nat} {n : Nat} {K : Int → Nat × Nat} {F E : Int → Int → Int} {Q : Option pV → pM → Prop} (x0 x1 x2 x3 : Int) (h : (K x0).1 = 12 ∧ (∀ F1, F1 = pUp F x0 56 0 → PC l G 6 mX12_comes (0, 0) [(2, x0), (0, x1), (0, x2), (0, x3), (0, 100000000)] (n, K, F1, E) (fun r μ => PW l G 7 mX12_costNow bg 15 [(0, (2, x0))] (r.toList ++ []) μ Q))) : PW l G 7 mX12_costNow bg 0 [(0, (2, x0)), (1, (0, x1)), (2, (0, x2)), (3, (0, x3))] [] (n, K, F, E) Q := by
  refine s_aload_n (q := 1) 0 0 rfl rfl ?_
  refine s_iconst (q := 2) 1 rfl ?_
  obtain ⟨c1, h⟩ := h
  refine n_putf (q := 5) (jj := 56) 2 12 56 rfl kX12_452 c1 (Or.inr (Or.inr (Or.inl ⟨rfl, (by decide)⟩))) ?_
  refine PW.nameF (fun F1 eF1 => ?_)
  replace h := h F1 eF1
  refine s_aload_n (q := 6) 3 0 rfl rfl ?_
  refine s_iload_n (q := 7) 4 1 rfl rfl ?_
  refine s_iload_n (q := 8) 5 2 rfl rfl ?_
  refine s_iload_n (q := 9) 6 3 rfl rfl ?_
  refine s_ldcw (q := 12) (x := 100000000) 7 rfl kX12_550 ?_
  refine PW.pick [0] rfl ?_
  exact n_callV (N := mX12_comes) (as := [(0, x1), (0, x2), (0, x3), (0, 100000000)]) (st := []) (q := 15) (d' := 6) 8 rfl uX12_comes kX12_523 rfl c1 h
theorem vX12_costNow_15 {l : Launch} {G : pG} {bg : Nat × Nat} {n : Nat} {K : Int → Nat × Nat} {F E : Int → Int → Int} {Q : Option pV → pM → Prop} (x0 s0 : Int) (h : (K x0).1 = 12 ∧ Q (some (0, F x0 50)) (n, K, F, E)) : PW l G 7 mX12_costNow bg 15 [(0, (2, x0))] [(0, s0)] (n, K, F, E) Q := by
  refine s_pop (q := 16) 9 rfl ?_
  refine s_aload_n (q := 17) 10 0 rfl rfl ?_
  obtain ⟨c1, h⟩ := h
  refine n_getf (q := 20) (jj := 50) 11 12 50 rfl kX12_485 c1 ?_
  exact s_iret 12 rfl rfl h
theorem vX12_brings_0 {l : Launch} {G : pG} {bg : Nat × Nat} {n : Nat} {K : Int → Nat × Nat} {F E : Int → Int → Int} {Q : Option pV → pM → Prop} (x0 x1 x2 x3 x4 : Int) (h : (K x0).1 = 12 ∧ (∀ F1, F1 = pUp F x0 0 0 → ((¬ ((0 ≤ x1 ∧ x1 < 3) ∧ (0 ≤ x2 ∧ x2 < 10) ∧ (0 ≤ x3 ∧ x3 < 10)) → Q (some (0, (-1))) (n, K, F1, E)) ∧ ((0 ≤ x1 ∧ x1 < 3) ∧ (0 ≤ x2 ∧ x2 < 10) ∧ (0 ≤ x3 ∧ x3 < 10) → ((0 ≤ x4 ∧ x4 ≤ 1 → PC l G 7 mX12_costNow (0, 0) [(2, x0), (0, x1), (0, x2), (0, x3)] (n, K, F1, E) (fun r μ => PW l G 8 mX12_brings bg 34 [(0, (2, x0)), (4, (0, x4))] (r.toList ++ []) μ Q)) ∧ (¬ (0 ≤ x4 ∧ x4 ≤ 1) → Q (some (0, (-1))) (n, K, F1, E))))))) : PW l G 8 mX12_brings bg 0 [(0, (2, x0)), (1, (0, x1)), (2, (0, x2)), (3, (0, x3)), (4, (0, x4))] [] (n, K, F, E) Q := by
  refine s_aload_n (q := 1) 0 0 rfl rfl ?_
  refine s_iconst (q := 2) 1 rfl ?_
  obtain ⟨c1, h⟩ := h
  refine n_putf (q := 5) (jj := 0) 2 12 0 rfl kX12_174 c1 (Or.inl rfl) ?_
  refine PW.nameF (fun F1 eF1 => ?_)
  replace h := h F1 eF1
  refine s_iload_n (q := 6) 3 1 rfl rfl ?_
  refine s_iload_n (q := 7) 4 2 rfl rfl ?_
  refine s_iload_n (q := 8) 5 3 rfl rfl ?_
  refine n_callS (N := mX12_isTuple) (as := [(0, x1), (0, x2), (0, x3)]) (st := []) (q := 11) (d' := 2) 6 rfl uX12_isTuple kX12_516 rfl (pX12_isTuple ?_)
  show PW l G 8 mX12_brings bg 11 [(0, (2, x0)), (1, (0, x1)), (2, (0, x2)), (3, (0, x3)), (4, (0, x4))] [(0, bI ((0 ≤ x1 ∧ x1 < 3) ∧ (0 ≤ x2 ∧ x2 < 10) ∧ (0 ≤ x3 ∧ x3 < 10)))] (n, K, F1, E) Q
  refine s_if_eq (q := 14) (tgt := 25) 7 rfl rfl (fun hb => ?_) (fun hb => ?_)
  · have hb := bI_f hb
    have b2 := hb
    replace h := h.1 hb
    refine s_iconst (q := 26) 14 rfl ?_
    exact s_iret 15 rfl rfl h
  · have hb := bI_t hb
    have b2 := hb
    replace h := h.2 hb
    refine s_iload (q := 16) 8 4 rfl rfl ?_
    refine s_i2l (q := 17) 9 rfl ?_
    refine s_lconst (q := 18) (x := 0) 10 rfl ?_
    refine s_lconst (q := 19) (x := 1) 11 rfl ?_
    refine n_callS (N := mX12_in) (as := [(1, x4), (1, 0), (1, 1)]) (st := []) (q := 22) (d' := 0) 12 rfl uX12_in kX12_197 rfl (pX12_in ?_)
    show PW l G 8 mX12_brings bg 22 [(0, (2, x0)), (1, (0, x1)), (2, (0, x2)), (3, (0, x3)), (4, (0, x4))] [(0, bI (0 ≤ x4 ∧ x4 ≤ 1))] (n, K, F1, E) Q
    refine s_if_ne (q := 25) (tgt := 27) 13 rfl rfl (fun hb => ?_) (fun hb => ?_)
    · have hb := bI_t hb
      have b3 := hb
      replace h := h.1 hb
      refine s_aload_n (q := 28) 16 0 rfl rfl ?_
      refine s_iload_n (q := 29) 17 1 rfl rfl ?_
      refine s_iload_n (q := 30) 18 2 rfl rfl ?_
      refine s_iload_n (q := 31) 19 3 rfl rfl ?_
      refine PW.pick [0, 4] rfl ?_
      exact n_callV (N := mX12_costNow) (as := [(0, x1), (0, x2), (0, x3)]) (st := []) (q := 34) (d' := 7) 20 rfl uX12_costNow kX12_551 rfl c1 h
    · have hb := bI_f2 hb
      have b3 := hb
      replace h := h.2 hb
      refine s_iconst (q := 26) 14 rfl ?_
      exact s_iret 15 rfl rfl h
theorem vX12_brings_34 {l : Launch} {G : pG} {bg : Nat × Nat} {n : Nat} {K : Int → Nat × Nat} {F E : Int → Int → Int} {Q : Option pV → pM → Prop} (x0 x4 s0 : Int) (h : ((¬ x4 = 0 → Q (some (0, s0)) (n, K, F, E)) ∧ (x4 = 0 → (K x0).1 = 12 ∧ Q (some (0, F x0 51)) (n, K, F, E)))) : PW l G 8 mX12_brings bg 34 [(0, (2, x0)), (4, (0, x4))] [(0, s0)] (n, K, F, E) Q := by
  refine s_istore (q := 36) (lv' := [(5, (0, s0)), (0, (2, x0)), (4, (0, x4))]) 21 rfl rfl ?_
  refine s_iload (q := 38) 22 2 rfl rfl ?_
  refine s_if_ne (q := 41) (tgt := 48) 23 rfl rfl (fun hb => ?_) (fun hb => ?_)
  · skip
    have b1 := hb
    replace h := h.1 hb
    refine s_iload (q := 50) 27 0 rfl rfl ?_
    exact s_iret 28 rfl rfl h
  · have hb := Classical.not_not.mp hb
    have b1 := hb
    replace h := h.2 hb
    refine s_aload_n (q := 42) 24 1 rfl rfl ?_
    obtain ⟨c2, h⟩ := h
    refine n_getf (q := 45) (jj := 51) 25 12 51 rfl kX12_473 c2 ?_
    refine s_goto (tgt := 50) 26 rfl rfl ?_
    exact s_iret 28 rfl rfl h
theorem vX12_layOrder_0 {l : Launch} {G : pG} {bg : Nat × Nat} {n : Nat} {K : Int → Nat × Nat} {F E : Int → Int → Int} {Q : Option pV → pM → Prop} (x0 x1 : Int) (h : (K x0).1 = 12 ∧ (K (F x0 3)).1 = 20 ∧ ((0 : Int) ≤ 6 ∧ 6 < ((K (F x0 3)).2 : Int)) ∧ (-2147483648 ≤ (E (F x0 3) 6) - 1 ∧ (E (F x0 3) 6) - 1 < 2147483648) ∧ PW l G 0 mX12_layOrder bg 18 [(0, (2, x0)), (2, (0, E (F x0 3) 6)), (3, (0, x1)), (4, (0, 0)), (5, (0, (E (F x0 3) 6) - 1))] [] (n, K, F, E) Q) : PW l G 0 mX12_layOrder bg 0 [(0, (2, x0)), (1, (0, x1))] [] (n, K, F, E) Q := by
  refine s_aload_n (q := 1) 0 0 rfl rfl ?_
  obtain ⟨c1, h⟩ := h
  refine n_getf (q := 4) (jj := 3) 1 12 3 rfl kX12_13 c1 ?_
  refine s_bipush (q := 6) 2 rfl ?_
  obtain ⟨c2, h⟩ := h
  obtain ⟨c3, h⟩ := h
  refine n_iald (q := 7) 3 rfl c2 c3 ?_
  refine s_istore_n (q := 8) (lv' := [(2, (0, E (F x0 3) 6)), (0, (2, x0)), (1, (0, x1))]) 4 rfl rfl ?_
  refine s_iload_n (q := 9) 5 2 rfl rfl ?_
  refine s_istore_n (q := 10) (lv' := [(3, (0, x1)), (2, (0, E (F x0 3) 6)), (0, (2, x0)), (1, (0, x1))]) 6 rfl rfl ?_
  refine s_iconst (q := 11) 7 rfl ?_
  refine s_istore (q := 13) (lv' := [(4, (0, 0)), (3, (0, x1)), (2, (0, E (F x0 3) 6)), (0, (2, x0)), (1, (0, x1))]) 8 rfl rfl ?_
  refine s_iload_n (q := 14) 9 2 rfl rfl ?_
  refine s_iconst (q := 15) 10 rfl ?_
  obtain ⟨c4, h⟩ := h
  refine n_isub (q := 16) 11 rfl c4 ?_
  refine s_istore (q := 18) (lv' := [(5, (0, (E (F x0 3) 6) - 1)), (4, (0, 0)), (3, (0, x1)), (2, (0, E (F x0 3) 6)), (0, (2, x0)), (1, (0, x1))]) 12 rfl rfl ?_
  refine PW.pick [4, 3, 2, 1, 0] rfl ?_
  exact h
theorem vX12_layOrder_18 {l : Launch} {G : pG} {bg : Nat × Nat} {n : Nat} {K : Int → Nat × Nat} {F E : Int → Int → Int} {Q : Option pV → pM → Prop} (x0 x2 x3 x4 x5 : Int) (h : ((x5 < 0 → (-2147483648 ≤ (bShl 1 x2) - 1 ∧ (bShl 1 x2) - 1 < 2147483648) ∧ ((¬ x4 = (bShl 1 x2) - 1 → Q (some (0, 0)) (n, K, F, E)) ∧ (x4 = (bShl 1 x2) - 1 → Q (some (0, 1)) (n, K, F, E)))) ∧ (¬ (x5 < 0) → (K x0).1 = 12 ∧ (0 : Int) ≤ F x0 57 ∧ (K (F x0 57)).1 = 20 ∧ ((0 : Int) ≤ x5 ∧ x5 < ((K (F x0 57)).2 : Int)) ∧ (∀ E1, E1 = pUp E (F x0 57) x5 (x3.tmod 4) → (-2147483648 ≤ x5 + (-1) ∧ x5 + (-1) < 2147483648) ∧ PW l G 0 mX12_layOrder bg 18 [(0, (2, x0)), (2, (0, x2)), (3, (0, w32 (x3.tdiv 4))), (4, (0, bOr x4 (bShl 1 (x3.tmod 4)))), (5, (0, x5 + (-1)))] [] (n, K, F, E1) Q)))) : PW l G 0 mX12_layOrder bg 18 [(0, (2, x0)), (2, (0, x2)), (3, (0, x3)), (4, (0, x4)), (5, (0, x5))] [] (n, K, F, E) Q := by
  refine s_iload (q := 20) 13 4 rfl rfl ?_
  refine s_if_lt (q := 23) (tgt := 57) 14 rfl rfl (fun hb => ?_) (fun hb => ?_)
  · skip
    have b1 := hb
    replace h := h.1 hb
    refine s_iload (q := 59) 37 3 rfl rfl ?_
    refine s_iconst (q := 60) 38 rfl ?_
    refine s_iload_n (q := 61) 39 1 rfl rfl ?_
    refine s_ishl (q := 62) 40 rfl ?_
    refine s_iconst (q := 63) 41 rfl ?_
    obtain ⟨c2, h⟩ := h
    refine n_isub (q := 64) 42 rfl c2 ?_
    refine s_icmp_ne (q := 67) (tgt := 71) 43 rfl rfl (fun hb => ?_) (fun hb => ?_)
    · skip
      have b3 := hb
      replace h := h.1 hb
      refine s_iconst (q := 72) 46 rfl ?_
      exact s_zret 47 rfl rfl (by decide) h
    · have hb := Classical.not_not.mp hb
      have b3 := hb
      replace h := h.2 hb
      refine s_iconst (q := 68) 44 rfl ?_
      refine s_goto (tgt := 72) 45 rfl rfl ?_
      exact s_zret 47 rfl rfl (by decide) h
  · skip
    have b1 := hb
    replace h := h.2 hb
    refine s_aload_n (q := 24) 15 0 rfl rfl ?_
    obtain ⟨c4, h⟩ := h
    refine n_getf (q := 27) (jj := 57) 16 12 57 rfl kX12_133 c4 ?_
    refine s_iload (q := 29) 17 4 rfl rfl ?_
    refine s_iload_n (q := 30) 18 2 rfl rfl ?_
    refine s_iconst (q := 31) 19 rfl ?_
    refine s_irem (q := 32) 20 rfl (by decide) ?_
    obtain ⟨c5, h⟩ := h
    obtain ⟨c6, h⟩ := h
    obtain ⟨c7, h⟩ := h
    refine n_iast (q := 33) 21 rfl c5 c6 c7 ?_
    refine PW.nameE (fun E1 eE1 => ?_)
    replace h := h E1 eE1
    refine s_iload_n (q := 34) 22 2 rfl rfl ?_
    refine s_iconst (q := 35) 23 rfl ?_
    refine s_idiv (q := 36) 24 rfl (by decide) ?_
    refine s_istore_n (q := 37) (lv' := [(3, (0, w32 (x3.tdiv 4))), (0, (2, x0)), (2, (0, x2)), (4, (0, x4)), (5, (0, x5))]) 25 rfl rfl ?_
    refine s_iload (q := 39) 26 3 rfl rfl ?_
    refine s_iconst (q := 40) 27 rfl ?_
    refine s_aload_n (q := 41) 28 1 rfl rfl ?_
    refine n_getf (q := 44) (jj := 57) 29 12 57 rfl kX12_133 c4 ?_
    refine s_iload (q := 46) 30 4 rfl rfl ?_
    refine n_iald (q := 47) 31 rfl c6 c7 ?_
    refine PW.top (b := x3.tmod 4) (by exact (congrFun (congrFun eE1 _) _).trans pUp_s) ?_
    refine s_ishl (q := 48) 32 rfl ?_
    refine s_ior (q := 49) 33 rfl ?_
    refine s_istore (q := 51) (lv' := [(4, (0, bOr x4 (bShl 1 (x3.tmod 4)))), (3, (0, w32 (x3.tdiv 4))), (0, (2, x0)), (2, (0, x2)), (5, (0, x5))]) 34 rfl rfl ?_
    obtain ⟨c8, h⟩ := h
    refine n_iinc (q := 54) (lv' := [(5, (0, x5 + (-1))), (4, (0, bOr x4 (bShl 1 (x3.tmod 4)))), (3, (0, w32 (x3.tdiv 4))), (0, (2, x0)), (2, (0, x2))]) 35 4 rfl rfl c8 rfl ?_
    refine s_goto (tgt := 18) 36 rfl rfl ?_
    refine PW.pick [3, 4, 2, 1, 0] rfl ?_
    exact h
theorem vX12_leastCost_0 {l : Launch} {G : pG} {bg : Nat × Nat} {n : Nat} {K : Int → Nat × Nat} {F E : Int → Int → Int} {Q : Option pV → pM → Prop} (x0 x1 x2 x3 : Int) (h : PW l G 7 mX12_leastCost bg 6 [(0, (2, x0)), (1, (0, x1)), (2, (0, x2)), (3, (0, x3)), (4, (0, 1)), (5, (0, 0))] [] (n, K, F, E) Q) : PW l G 7 mX12_leastCost bg 0 [(0, (2, x0)), (1, (0, x1)), (2, (0, x2)), (3, (0, x3))] [] (n, K, F, E) Q := by
  refine s_iconst (q := 1) 0 rfl ?_
  refine s_istore (q := 3) (lv' := [(4, (0, 1)), (0, (2, x0)), (1, (0, x1)), (2, (0, x2)), (3, (0, x3))]) 1 rfl rfl ?_
  refine s_iconst (q := 4) 2 rfl ?_
  refine s_istore (q := 6) (lv' := [(5, (0, 0)), (4, (0, 1)), (0, (2, x0)), (1, (0, x1)), (2, (0, x2)), (3, (0, x3))]) 3 rfl rfl ?_
  refine PW.pick [2, 3, 4, 5, 1, 0] rfl ?_
  exact h
theorem vX12_leastCost_6 {l : Launch} {G : pG} {bg : Nat × Nat} {n : Nat} {K : Int → Nat × Nat} {F E : Int → Int → Int} {Q : Option pV → pM → Prop} (x0 x1 x2 x3 x4 x5 : Int) (h : (K x0).1 = 12 ∧ (K (F x0 3)).1 = 20 ∧ ((0 : Int) ≤ 6 ∧ 6 < ((K (F x0 3)).2 : Int)) ∧ ((E (F x0 3) 6 ≤ x5 → PW l G 7 mX12_leastCost bg 38 [(0, (2, x0)), (1, (0, x1)), (2, (0, x2)), (3, (0, x3)), (4, (0, x4)), (5, (0, 100000000)), (6, (0, 0))] [] (n, K, F, E) Q) ∧ (¬ (E (F x0 3) 6 ≤ x5) → (-2147483648 ≤ x4 * 4 ∧ x4 * 4 < 2147483648) ∧ (-2147483648 ≤ x5 + 1 ∧ x5 + 1 < 2147483648) ∧ PW l G 7 mX12_leastCost bg 6 [(0, (2, x0)), (1, (0, x1)), (2, (0, x2)), (3, (0, x3)), (4, (0, x4 * 4)), (5, (0, x5 + 1))] [] (n, K, F, E) Q))) : PW l G 7 mX12_leastCost bg 6 [(0, (2, x0)), (1, (0, x1)), (2, (0, x2)), (3, (0, x3)), (4, (0, x4)), (5, (0, x5))] [] (n, K, F, E) Q := by
  refine s_iload (q := 8) 4 5 rfl rfl ?_
  refine s_aload_n (q := 9) 5 0 rfl rfl ?_
  obtain ⟨c1, h⟩ := h
  refine n_getf (q := 12) (jj := 3) 6 12 3 rfl kX12_13 c1 ?_
  refine s_bipush (q := 14) 7 rfl ?_
  obtain ⟨c2, h⟩ := h
  obtain ⟨c3, h⟩ := h
  refine n_iald (q := 15) 8 rfl c2 c3 ?_
  refine s_icmp_ge (q := 18) (tgt := 30) 9 rfl rfl (fun hb => ?_) (fun hb => ?_)
  · skip
    have b4 := hb
    replace h := h.1 hb
    refine s_ldcw (q := 33) (x := 100000000) 16 rfl kX12_550 ?_
    refine s_istore (q := 35) (lv' := [(5, (0, 100000000)), (0, (2, x0)), (1, (0, x1)), (2, (0, x2)), (3, (0, x3)), (4, (0, x4))]) 17 rfl rfl ?_
    refine s_iconst (q := 36) 18 rfl ?_
    refine s_istore (q := 38) (lv' := [(6, (0, 0)), (5, (0, 100000000)), (0, (2, x0)), (1, (0, x1)), (2, (0, x2)), (3, (0, x3)), (4, (0, x4))]) 19 rfl rfl ?_
    refine PW.pick [2, 3, 4, 5, 6, 1, 0] rfl ?_
    exact h
  · skip
    have b4 := hb
    replace h := h.2 hb
    refine s_iload (q := 20) 10 4 rfl rfl ?_
    refine s_iconst (q := 21) 11 rfl ?_
    obtain ⟨c5, h⟩ := h
    refine n_imul (q := 22) 12 rfl c5 ?_
    refine s_istore (q := 24) (lv' := [(4, (0, x4 * 4)), (0, (2, x0)), (1, (0, x1)), (2, (0, x2)), (3, (0, x3)), (5, (0, x5))]) 13 rfl rfl ?_
    obtain ⟨c6, h⟩ := h
    refine n_iinc (q := 27) (lv' := [(5, (0, x5 + 1)), (4, (0, x4 * 4)), (0, (2, x0)), (1, (0, x1)), (2, (0, x2)), (3, (0, x3))]) 14 5 rfl rfl c6 rfl ?_
    refine s_goto (tgt := 6) 15 rfl rfl ?_
    refine PW.pick [2, 3, 4, 5, 1, 0] rfl ?_
    exact h
theorem vX12_leastCost_38 {l : Launch} {G : pG} {bg : Nat × Nat} {n : Nat} {K : Int → Nat × Nat} {F E : Int → Int → Int} {Q : Option pV → pM → Prop} (x0 x1 x2 x3 x4 x5 x6 : Int) (h : ((x4 ≤ x6 → (K x0).1 = 12 ∧ (∀ F1, F1 = pUp F x0 56 0 → Q (some (0, x5)) (n, K, F1, E))) ∧ (¬ (x4 ≤ x6) → (K x0).1 = 12 ∧ PC l G 0 mX12_layOrder (0, 0) [(2, x0), (0, x6)] (n, K, F, E) (fun r μ => PW l G 7 mX12_leastCost bg 51 [(0, (2, x0)), (1, (0, x1)), (2, (0, x2)), (3, (0, x3)), (4, (0, x4)), (5, (0, x5)), (6, (0, x6))] (r.toList ++ []) μ Q)))) : PW l G 7 mX12_leastCost bg 38 [(0, (2, x0)), (1, (0, x1)), (2, (0, x2)), (3, (0, x3)), (4, (0, x4)), (5, (0, x5)), (6, (0, x6))] [] (n, K, F, E) Q := by
  refine s_iload (q := 40) 20 6 rfl rfl ?_
  refine s_iload (q := 42) 21 4 rfl rfl ?_
  refine s_icmp_ge (q := 45) (tgt := 120) 22 rfl rfl (fun hb => ?_) (fun hb => ?_)
  · skip
    have b1 := hb
    replace h := h.1 hb
    refine s_aload_n (q := 121) 61 0 rfl rfl ?_
    refine s_iconst (q := 122) 62 rfl ?_
    obtain ⟨c2, h⟩ := h
    refine n_putf (q := 125) (jj := 56) 63 12 56 rfl kX12_452 c2 (Or.inr (Or.inr (Or.inl ⟨rfl, (by decide)⟩))) ?_
    refine PW.nameF (fun F1 eF1 => ?_)
    replace h := h F1 eF1
    refine s_iload (q := 127) 64 5 rfl rfl ?_
    exact s_iret 65 rfl rfl h
  · skip
    have b1 := hb
    replace h := h.2 hb
    refine s_aload_n (q := 46) 23 0 rfl rfl ?_
    refine s_iload (q := 48) 24 6 rfl rfl ?_
    obtain ⟨c3, h⟩ := h
    refine PW.pick [0, 1, 2, 3, 4, 5, 6] rfl ?_
    exact n_callV (N := mX12_layOrder) (as := [(0, x6)]) (st := []) (q := 51) (d' := 0) 25 rfl uX12_layOrder kX12_554 rfl c3 h
theorem vX12_leastCost_51 {l : Launch} {G : pG} {bg : Nat × Nat} {n : Nat} {K : Int → Nat × Nat} {F E : Int → Int → Int} {Q : Option pV → pM → Prop} (x0 x1 x2 x3 x4 x5 x6 s0 : Int) (h : ((s0 = 0 → (-2147483648 ≤ x6 + 1 ∧ x6 + 1 < 2147483648) ∧ PW l G 7 mX12_leastCost bg 38 [(0, (2, x0)), (1, (0, x1)), (2, (0, x2)), (3, (0, x3)), (4, (0, x4)), (5, (0, x5)), (6, (0, x6 + 1))] [] (n, K, F, E) Q) ∧ (¬ (s0 = 0) → (K x0).1 = 12 ∧ (∀ F1, F1 = pUp F x0 56 1 → PC l G 6 mX12_comes (0, 0) [(2, x0), (0, x1), (0, x2), (0, x3), (0, 100000000)] (n, K, F1, E) (fun r μ => PW l G 7 mX12_leastCost bg 69 [(0, (2, x0)), (1, (0, x1)), (2, (0, x2)), (3, (0, x3)), (4, (0, x4)), (5, (0, x5)), (6, (0, x6))] (r.toList ++ []) μ Q))))) : PW l G 7 mX12_leastCost bg 51 [(0, (2, x0)), (1, (0, x1)), (2, (0, x2)), (3, (0, x3)), (4, (0, x4)), (5, (0, x5)), (6, (0, x6))] [(0, s0)] (n, K, F, E) Q := by
  refine s_if_eq (q := 54) (tgt := 114) 26 rfl rfl (fun hb => ?_) (fun hb => ?_)
  · skip
    have b1 := hb
    replace h := h.1 hb
    obtain ⟨c2, h⟩ := h
    refine n_iinc (q := 117) (lv' := [(6, (0, x6 + 1)), (0, (2, x0)), (1, (0, x1)), (2, (0, x2)), (3, (0, x3)), (4, (0, x4)), (5, (0, x5))]) 59 6 rfl rfl c2 rfl ?_
    refine s_goto (tgt := 38) 60 rfl rfl ?_
    refine PW.pick [1, 2, 3, 4, 5, 6, 0] rfl ?_
    exact h
  · skip
    have b1 := hb
    replace h := h.2 hb
    refine s_aload_n (q := 55) 27 0 rfl rfl ?_
    refine s_iconst (q := 56) 28 rfl ?_
    obtain ⟨c3, h⟩ := h
    refine n_putf (q := 59) (jj := 56) 29 12 56 rfl kX12_452 c3 (Or.inr (Or.inr (Or.inl ⟨rfl, (by decide)⟩))) ?_
    refine PW.nameF (fun F1 eF1 => ?_)
    replace h := h F1 eF1
    refine s_aload_n (q := 60) 30 0 rfl rfl ?_
    refine s_iload_n (q := 61) 31 1 rfl rfl ?_
    refine s_iload_n (q := 62) 32 2 rfl rfl ?_
    refine s_iload_n (q := 63) 33 3 rfl rfl ?_
    refine s_ldcw (q := 66) (x := 100000000) 34 rfl kX12_550 ?_
    refine PW.pick [0, 1, 2, 3, 4, 5, 6] rfl ?_
    exact n_callV (N := mX12_comes) (as := [(0, x1), (0, x2), (0, x3), (0, 100000000)]) (st := []) (q := 69) (d' := 6) 35 rfl uX12_comes kX12_523 rfl c3 h
theorem vX12_leastCost_69 {l : Launch} {G : pG} {bg : Nat × Nat} {n : Nat} {K : Int → Nat × Nat} {F E : Int → Int → Int} {Q : Option pV → pM → Prop} (x0 x1 x2 x3 x4 x5 x6 s0 : Int) (h : (K x0).1 = 12 ∧ ((x5 ≤ F x0 50 → (-2147483648 ≤ x6 + 1 ∧ x6 + 1 < 2147483648) ∧ PW l G 7 mX12_leastCost bg 38 [(0, (2, x0)), (1, (0, x1)), (2, (0, x2)), (3, (0, x3)), (4, (0, x4)), (5, (0, x5)), (6, (0, x6 + 1))] [] (n, K, F, E) Q) ∧ (¬ (x5 ≤ F x0 50) → PW l G 7 mX12_leastCost bg 88 [(0, (2, x0)), (1, (0, x1)), (2, (0, x2)), (3, (0, x3)), (4, (0, x4)), (5, (0, F x0 50)), (6, (0, x6)), (7, (0, 0))] [] (n, K, F, E) Q))) : PW l G 7 mX12_leastCost bg 69 [(0, (2, x0)), (1, (0, x1)), (2, (0, x2)), (3, (0, x3)), (4, (0, x4)), (5, (0, x5)), (6, (0, x6))] [(0, s0)] (n, K, F, E) Q := by
  refine s_pop (q := 70) 36 rfl ?_
  refine s_aload_n (q := 71) 37 0 rfl rfl ?_
  obtain ⟨c1, h⟩ := h
  refine n_getf (q := 74) (jj := 50) 38 12 50 rfl kX12_485 c1 ?_
  refine s_iload (q := 76) 39 5 rfl rfl ?_
  refine s_icmp_ge (q := 79) (tgt := 114) 40 rfl rfl (fun hb => ?_) (fun hb => ?_)
  · skip
    have b2 := hb
    replace h := h.1 hb
    obtain ⟨c3, h⟩ := h
    refine n_iinc (q := 117) (lv' := [(6, (0, x6 + 1)), (0, (2, x0)), (1, (0, x1)), (2, (0, x2)), (3, (0, x3)), (4, (0, x4)), (5, (0, x5))]) 59 6 rfl rfl c3 rfl ?_
    refine s_goto (tgt := 38) 60 rfl rfl ?_
    refine PW.pick [1, 2, 3, 4, 5, 6, 0] rfl ?_
    exact h
  · skip
    have b2 := hb
    replace h := h.2 hb
    refine s_aload_n (q := 80) 41 0 rfl rfl ?_
    refine n_getf (q := 83) (jj := 50) 42 12 50 rfl kX12_485 c1 ?_
    refine s_istore (q := 85) (lv' := [(5, (0, F x0 50)), (0, (2, x0)), (1, (0, x1)), (2, (0, x2)), (3, (0, x3)), (4, (0, x4)), (6, (0, x6))]) 43 rfl rfl ?_
    refine s_iconst (q := 86) 44 rfl ?_
    refine s_istore (q := 88) (lv' := [(7, (0, 0)), (5, (0, F x0 50)), (0, (2, x0)), (1, (0, x1)), (2, (0, x2)), (3, (0, x3)), (4, (0, x4)), (6, (0, x6))]) 45 rfl rfl ?_
    refine PW.pick [2, 3, 4, 5, 6, 1, 7, 0] rfl ?_
    exact h
theorem vX12_leastCost_88 {l : Launch} {G : pG} {bg : Nat × Nat} {n : Nat} {K : Int → Nat × Nat} {F E : Int → Int → Int} {Q : Option pV → pM → Prop} (x0 x1 x2 x3 x4 x5 x6 x7 : Int) (h : ((4 ≤ x7 → (-2147483648 ≤ x6 + 1 ∧ x6 + 1 < 2147483648) ∧ PW l G 7 mX12_leastCost bg 38 [(0, (2, x0)), (1, (0, x1)), (2, (0, x2)), (3, (0, x3)), (4, (0, x4)), (5, (0, x5)), (6, (0, x6 + 1))] [] (n, K, F, E) Q) ∧ (¬ (4 ≤ x7) → (K x0).1 = 12 ∧ (K (F x0 57)).1 = 20 ∧ ((0 : Int) ≤ x7 ∧ x7 < ((K (F x0 57)).2 : Int)) ∧ (0 : Int) ≤ F x0 63 ∧ (K (F x0 63)).1 = 20 ∧ ((0 : Int) ≤ x7 ∧ x7 < ((K (F x0 63)).2 : Int)) ∧ (∀ E1, E1 = pUp E (F x0 63) x7 (E (F x0 57) x7) → (-2147483648 ≤ x7 + 1 ∧ x7 + 1 < 2147483648) ∧ PW l G 7 mX12_leastCost bg 88 [(0, (2, x0)), (1, (0, x1)), (2, (0, x2)), (3, (0, x3)), (4, (0, x4)), (5, (0, x5)), (6, (0, x6)), (7, (0, x7 + 1))] [] (n, K, F, E1) Q)))) : PW l G 7 mX12_leastCost bg 88 [(0, (2, x0)), (1, (0, x1)), (2, (0, x2)), (3, (0, x3)), (4, (0, x4)), (5, (0, x5)), (6, (0, x6)), (7, (0, x7))] [] (n, K, F, E) Q := by
  refine s_iload (q := 90) 46 7 rfl rfl ?_
  refine s_iconst (q := 91) 47 rfl ?_
  refine s_icmp_ge (q := 94) (tgt := 114) 48 rfl rfl (fun hb => ?_) (fun hb => ?_)
  · skip
    have b1 := hb
    replace h := h.1 hb
    obtain ⟨c2, h⟩ := h
    refine n_iinc (q := 117) (lv' := [(6, (0, x6 + 1)), (0, (2, x0)), (1, (0, x1)), (2, (0, x2)), (3, (0, x3)), (4, (0, x4)), (5, (0, x5)), (7, (0, x7))]) 59 6 rfl rfl c2 rfl ?_
    refine s_goto (tgt := 38) 60 rfl rfl ?_
    refine PW.pick [1, 2, 3, 4, 5, 6, 0] rfl ?_
    exact h
  · skip
    have b1 := hb
    replace h := h.2 hb
    refine s_aload_n (q := 95) 49 0 rfl rfl ?_
    obtain ⟨c3, h⟩ := h
    refine n_getf (q := 98) (jj := 63) 50 12 63 rfl kX12_142 c3 ?_
    refine s_iload (q := 100) 51 7 rfl rfl ?_
    refine s_aload_n (q := 101) 52 0 rfl rfl ?_
    refine n_getf (q := 104) (jj := 57) 53 12 57 rfl kX12_133 c3 ?_
    refine s_iload (q := 106) 54 7 rfl rfl ?_
    obtain ⟨c4, h⟩ := h
    obtain ⟨c5, h⟩ := h
    refine n_iald (q := 107) 55 rfl c4 c5 ?_
    obtain ⟨c6, h⟩ := h
    obtain ⟨c7, h⟩ := h
    obtain ⟨c8, h⟩ := h
    refine n_iast (q := 108) 56 rfl c6 c7 c8 ?_
    refine PW.nameE (fun E1 eE1 => ?_)
    replace h := h E1 eE1
    obtain ⟨c9, h⟩ := h
    refine n_iinc (q := 111) (lv' := [(7, (0, x7 + 1)), (0, (2, x0)), (1, (0, x1)), (2, (0, x2)), (3, (0, x3)), (4, (0, x4)), (5, (0, x5)), (6, (0, x6))]) 57 7 rfl rfl c9 rfl ?_
    refine s_goto (tgt := 88) 58 rfl rfl ?_
    refine PW.pick [1, 2, 3, 4, 5, 6, 7, 0] rfl ?_
    exact h
theorem vX12_cheapest_0 {l : Launch} {G : pG} {bg : Nat × Nat} {n : Nat} {K : Int → Nat × Nat} {F E : Int → Int → Int} {Q : Option pV → pM → Prop} (x0 x1 x2 x3 x4 : Int) (h : (K x0).1 = 12 ∧ (∀ F1, F1 = pUp F x0 0 0 → ((¬ ((0 ≤ x1 ∧ x1 < 3) ∧ (0 ≤ x2 ∧ x2 < 10) ∧ (0 ≤ x3 ∧ x3 < 10)) → Q (some (0, (-1))) (n, K, F1, E)) ∧ ((0 ≤ x1 ∧ x1 < 3) ∧ (0 ≤ x2 ∧ x2 < 10) ∧ (0 ≤ x3 ∧ x3 < 10) → (K (F x0 3)).1 = 20 ∧ ((0 : Int) ≤ 6 ∧ 6 < ((K (F x0 3)).2 : Int)) ∧ (-9223372036854775808 ≤ (E (F x0 3) 6) - 1 ∧ (E (F x0 3) 6) - 1 < 9223372036854775808) ∧ (((-1) ≤ x4 ∧ x4 ≤ (E (F x0 3) 6) - 1 → PC l G 7 mX12_leastCost (0, 0) [(2, x0), (0, x1), (0, x2), (0, x3)] (n, K, F1, E) (fun r μ => PW l G 8 mX12_cheapest bg 45 [(0, (2, x0)), (4, (0, x4))] (r.toList ++ []) μ Q)) ∧ (¬ ((-1) ≤ x4 ∧ x4 ≤ (E (F x0 3) 6) - 1) → Q (some (0, (-1))) (n, K, F1, E))))))) : PW l G 8 mX12_cheapest bg 0 [(0, (2, x0)), (1, (0, x1)), (2, (0, x2)), (3, (0, x3)), (4, (0, x4))] [] (n, K, F, E) Q := by
  refine s_aload_n (q := 1) 0 0 rfl rfl ?_
  refine s_iconst (q := 2) 1 rfl ?_
  obtain ⟨c1, h⟩ := h
  refine n_putf (q := 5) (jj := 0) 2 12 0 rfl kX12_174 c1 (Or.inl rfl) ?_
  refine PW.nameF (fun F1 eF1 => ?_)
  replace h := h F1 eF1
  refine s_iload_n (q := 6) 3 1 rfl rfl ?_
  refine s_iload_n (q := 7) 4 2 rfl rfl ?_
  refine s_iload_n (q := 8) 5 3 rfl rfl ?_
  refine n_callS (N := mX12_isTuple) (as := [(0, x1), (0, x2), (0, x3)]) (st := []) (q := 11) (d' := 2) 6 rfl uX12_isTuple kX12_516 rfl (pX12_isTuple ?_)
  show PW l G 8 mX12_cheapest bg 11 [(0, (2, x0)), (1, (0, x1)), (2, (0, x2)), (3, (0, x3)), (4, (0, x4))] [(0, bI ((0 ≤ x1 ∧ x1 < 3) ∧ (0 ≤ x2 ∧ x2 < 10) ∧ (0 ≤ x3 ∧ x3 < 10)))] (n, K, F1, E) Q
  refine s_if_eq (q := 14) (tgt := 36) 7 rfl rfl (fun hb => ?_) (fun hb => ?_)
  · have hb := bI_f hb
    have b2 := hb
    replace h := h.1 hb
    refine s_iconst (q := 37) 20 rfl ?_
    exact s_iret 21 rfl rfl h
  · have hb := bI_t hb
    have b2 := hb
    replace h := h.2 hb
    refine s_iload (q := 16) 8 4 rfl rfl ?_
    refine s_i2l (q := 17) 9 rfl ?_
    refine s_ldc2 (q := 20) (x := (-1)) 10 rfl kX12_279 ?_
    refine s_aload_n (q := 21) 11 0 rfl rfl ?_
    refine n_getf (q := 24) (jj := 3) 12 12 3 rfl kX12_13 c1 ?_
    refine PW.top (b := F x0 3) (by exact (congrFun (congrFun eF1 _) _).trans (pUp_k (by decide))) ?_
    refine s_bipush (q := 26) 13 rfl ?_
    obtain ⟨c3, h⟩ := h
    obtain ⟨c4, h⟩ := h
    refine n_iald (q := 27) 14 rfl c3 c4 ?_
    refine s_i2l (q := 28) 15 rfl ?_
    refine s_lconst (q := 29) (x := 1) 16 rfl ?_
    obtain ⟨c5, h⟩ := h
    refine n_lsub (q := 30) 17 rfl c5 ?_
    refine n_callS (N := mX12_in) (as := [(1, x4), (1, (-1)), (1, (E (F x0 3) 6) - 1)]) (st := []) (q := 33) (d' := 0) 18 rfl uX12_in kX12_197 rfl (pX12_in ?_)
    show PW l G 8 mX12_cheapest bg 33 [(0, (2, x0)), (1, (0, x1)), (2, (0, x2)), (3, (0, x3)), (4, (0, x4))] [(0, bI ((-1) ≤ x4 ∧ x4 ≤ (E (F x0 3) 6) - 1))] (n, K, F1, E) Q
    refine s_if_ne (q := 36) (tgt := 38) 19 rfl rfl (fun hb => ?_) (fun hb => ?_)
    · have hb := bI_t hb
      have b6 := hb
      replace h := h.1 hb
      refine s_aload_n (q := 39) 22 0 rfl rfl ?_
      refine s_iload_n (q := 40) 23 1 rfl rfl ?_
      refine s_iload_n (q := 41) 24 2 rfl rfl ?_
      refine s_iload_n (q := 42) 25 3 rfl rfl ?_
      refine PW.pick [0, 4] rfl ?_
      exact n_callV (N := mX12_leastCost) (as := [(0, x1), (0, x2), (0, x3)]) (st := []) (q := 45) (d' := 7) 26 rfl uX12_leastCost kX12_557 rfl c1 h
    · have hb := bI_f2 hb
      have b6 := hb
      replace h := h.2 hb
      refine s_iconst (q := 37) 20 rfl ?_
      exact s_iret 21 rfl rfl h
theorem vX12_cheapest_45 {l : Launch} {G : pG} {bg : Nat × Nat} {n : Nat} {K : Int → Nat × Nat} {F E : Int → Int → Int} {Q : Option pV → pM → Prop} (x0 x4 s0 : Int) (h : ((¬ x4 = (-1) → (K x0).1 = 12 ∧ (K (F x0 63)).1 = 20 ∧ ((0 : Int) ≤ x4 ∧ x4 < ((K (F x0 63)).2 : Int)) ∧ Q (some (0, E (F x0 63) x4)) (n, K, F, E)) ∧ (x4 = (-1) → Q (some (0, s0)) (n, K, F, E)))) : PW l G 8 mX12_cheapest bg 45 [(0, (2, x0)), (4, (0, x4))] [(0, s0)] (n, K, F, E) Q := by
  refine s_istore (q := 47) (lv' := [(5, (0, s0)), (0, (2, x0)), (4, (0, x4))]) 27 rfl rfl ?_
  refine s_iload (q := 49) 28 2 rfl rfl ?_
  refine s_iconst (q := 50) 29 rfl ?_
  refine s_icmp_ne (q := 53) (tgt := 58) 30 rfl rfl (fun hb => ?_) (fun hb => ?_)
  · skip
    have b1 := hb
    replace h := h.1 hb
    refine s_aload_n (q := 59) 33 1 rfl rfl ?_
    obtain ⟨c2, h⟩ := h
    refine n_getf (q := 62) (jj := 63) 34 12 63 rfl kX12_142 c2 ?_
    refine s_iload (q := 64) 35 2 rfl rfl ?_
    obtain ⟨c3, h⟩ := h
    obtain ⟨c4, h⟩ := h
    refine n_iald (q := 65) 36 rfl c3 c4 ?_
    exact s_iret 37 rfl rfl h
  · have hb := Classical.not_not.mp hb
    have b1 := hb
    replace h := h.2 hb
    refine s_iload (q := 55) 31 0 rfl rfl ?_
    refine s_goto (tgt := 65) 32 rfl rfl ?_
    exact s_iret 37 rfl rfl h
theorem vX12_regret_0 {l : Launch} {G : pG} {bg : Nat × Nat} {n : Nat} {K : Int → Nat × Nat} {F E : Int → Int → Int} {Q : Option pV → pM → Prop} (x0 x1 x2 x3 : Int) (h : (K x0).1 = 12 ∧ (∀ F1, F1 = pUp F x0 0 0 → (((0 ≤ x1 ∧ x1 < 3) ∧ (0 ≤ x2 ∧ x2 < 10) ∧ (0 ≤ x3 ∧ x3 < 10) → PC l G 7 mX12_costNow (0, 0) [(2, x0), (0, x1), (0, x2), (0, x3)] (n, K, F1, E) (fun r μ => PW l G 8 mX12_regret bg 23 [(0, (2, x0)), (1, (0, x1)), (2, (0, x2)), (3, (0, x3))] (r.toList ++ []) μ Q)) ∧ (¬ ((0 ≤ x1 ∧ x1 < 3) ∧ (0 ≤ x2 ∧ x2 < 10) ∧ (0 ≤ x3 ∧ x3 < 10)) → Q (some (0, (-1))) (n, K, F1, E))))) : PW l G 8 mX12_regret bg 0 [(0, (2, x0)), (1, (0, x1)), (2, (0, x2)), (3, (0, x3))] [] (n, K, F, E) Q := by
  refine s_aload_n (q := 1) 0 0 rfl rfl ?_
  refine s_iconst (q := 2) 1 rfl ?_
  obtain ⟨c1, h⟩ := h
  refine n_putf (q := 5) (jj := 0) 2 12 0 rfl kX12_174 c1 (Or.inl rfl) ?_
  refine PW.nameF (fun F1 eF1 => ?_)
  replace h := h F1 eF1
  refine s_iload_n (q := 6) 3 1 rfl rfl ?_
  refine s_iload_n (q := 7) 4 2 rfl rfl ?_
  refine s_iload_n (q := 8) 5 3 rfl rfl ?_
  refine n_callS (N := mX12_isTuple) (as := [(0, x1), (0, x2), (0, x3)]) (st := []) (q := 11) (d' := 2) 6 rfl uX12_isTuple kX12_516 rfl (pX12_isTuple ?_)
  show PW l G 8 mX12_regret bg 11 [(0, (2, x0)), (1, (0, x1)), (2, (0, x2)), (3, (0, x3))] [(0, bI ((0 ≤ x1 ∧ x1 < 3) ∧ (0 ≤ x2 ∧ x2 < 10) ∧ (0 ≤ x3 ∧ x3 < 10)))] (n, K, F1, E) Q
  refine s_if_ne (q := 14) (tgt := 16) 7 rfl rfl (fun hb => ?_) (fun hb => ?_)
  · have hb := bI_t hb
    have b2 := hb
    replace h := h.1 hb
    refine s_aload_n (q := 17) 10 0 rfl rfl ?_
    refine s_iload_n (q := 18) 11 1 rfl rfl ?_
    refine s_iload_n (q := 19) 12 2 rfl rfl ?_
    refine s_iload_n (q := 20) 13 3 rfl rfl ?_
    refine PW.pick [0, 1, 2, 3] rfl ?_
    exact n_callV (N := mX12_costNow) (as := [(0, x1), (0, x2), (0, x3)]) (st := []) (q := 23) (d' := 7) 14 rfl uX12_costNow kX12_551 rfl c1 h
  · have hb := bI_f2 hb
    have b2 := hb
    replace h := h.2 hb
    refine s_iconst (q := 15) 8 rfl ?_
    exact s_iret 9 rfl rfl h
theorem vX12_regret_23 {l : Launch} {G : pG} {bg : Nat × Nat} {n : Nat} {K : Int → Nat × Nat} {F E : Int → Int → Int} {Q : Option pV → pM → Prop} (x0 x1 x2 x3 s0 : Int) (h : (K x0).1 = 12 ∧ PC l G 7 mX12_leastCost (0, 0) [(2, x0), (0, x1), (0, x2), (0, x3)] (n, K, F, E) (fun r μ => PW l G 8 mX12_regret bg 34 [] (r.toList ++ [(0, s0)]) μ Q)) : PW l G 8 mX12_regret bg 23 [(0, (2, x0)), (1, (0, x1)), (2, (0, x2)), (3, (0, x3))] [(0, s0)] (n, K, F, E) Q := by
  refine s_istore (q := 25) (lv' := [(4, (0, s0)), (0, (2, x0)), (1, (0, x1)), (2, (0, x2)), (3, (0, x3))]) 15 rfl rfl ?_
  refine s_iload (q := 27) 16 0 rfl rfl ?_
  refine s_aload_n (q := 28) 17 1 rfl rfl ?_
  refine s_iload_n (q := 29) 18 2 rfl rfl ?_
  refine s_iload_n (q := 30) 19 3 rfl rfl ?_
  refine s_iload_n (q := 31) 20 4 rfl rfl ?_
  obtain ⟨c1, h⟩ := h
  refine PW.pick [] rfl ?_
  exact n_callV (N := mX12_leastCost) (as := [(0, x1), (0, x2), (0, x3)]) (st := [(0, s0)]) (q := 34) (d' := 7) 21 rfl uX12_leastCost kX12_557 rfl c1 h
theorem vX12_regret_34 {l : Launch} {G : pG} {bg : Nat × Nat} {n : Nat} {K : Int → Nat × Nat} {F E : Int → Int → Int} {Q : Option pV → pM → Prop} (s0 s1 : Int) (h : Q (some (0, w32 (s1 - s0))) (n, K, F, E)) : PW l G 8 mX12_regret bg 34 [] [(0, s0), (0, s1)] (n, K, F, E) Q := by
  refine s_isub (q := 35) 22 rfl ?_
  exact s_iret 23 rfl rfl h
theorem vX12_bestIndex_0 {l : Launch} {G : pG} {bg : Nat × Nat} {n : Nat} {K : Int → Nat × Nat} {F E : Int → Int → Int} {Q : Option pV → pM → Prop} (x0 x1 x2 x3 x4 : Int) (h : (K x0).1 = 12 ∧ (∀ F1, F1 = pUp F x0 0 0 → ((¬ (0 ≤ x1 ∧ x1 < 3) → Q (some (0, (-1))) (n, K, F1, E)) ∧ (0 ≤ x1 ∧ x1 < 3 → (((0 ≤ x2 ∧ x2 < 3) ∧ (0 ≤ x3 ∧ x3 < 10) ∧ (0 ≤ x4 ∧ x4 < 10) → (-2147483648 ≤ 12 + x1 ∧ 12 + x1 < 2147483648) ∧ (K (F x0 3)).1 = 20 ∧ ((0 : Int) ≤ 12 + x1 ∧ 12 + x1 < ((K (F x0 3)).2 : Int)) ∧ PW l G 8 mX12_bestIndex bg 46 [(0, (2, x0)), (1, (0, x1)), (2, (0, x2)), (3, (0, x3)), (4, (0, x4)), (5, (0, E (F x0 3) (12 + x1))), (6, (0, 100000000)), (7, (0, (-1))), (8, (0, 0))] [] (n, K, F1, E) Q) ∧ (¬ ((0 ≤ x2 ∧ x2 < 3) ∧ (0 ≤ x3 ∧ x3 < 10) ∧ (0 ≤ x4 ∧ x4 < 10)) → Q (some (0, (-1))) (n, K, F1, E))))))) : PW l G 8 mX12_bestIndex bg 0 [(0, (2, x0)), (1, (0, x1)), (2, (0, x2)), (3, (0, x3)), (4, (0, x4))] [] (n, K, F, E) Q := by
  refine s_aload_n (q := 1) 0 0 rfl rfl ?_
  refine s_iconst (q := 2) 1 rfl ?_
  obtain ⟨c1, h⟩ := h
  refine n_putf (q := 5) (jj := 0) 2 12 0 rfl kX12_174 c1 (Or.inl rfl) ?_
  refine PW.nameF (fun F1 eF1 => ?_)
  replace h := h F1 eF1
  refine s_iload_n (q := 6) 3 1 rfl rfl ?_
  refine n_callS (N := mX12_isRelation) (as := [(0, x1)]) (st := []) (q := 9) (d' := 1) 4 rfl uX12_isRelation kX12_201 rfl (pX12_isRelation ?_)
  show PW l G 8 mX12_bestIndex bg 9 [(0, (2, x0)), (1, (0, x1)), (2, (0, x2)), (3, (0, x3)), (4, (0, x4))] [(0, bI (0 ≤ x1 ∧ x1 < 3))] (n, K, F1, E) Q
  refine s_if_eq (q := 12) (tgt := 22) 5 rfl rfl (fun hb => ?_) (fun hb => ?_)
  · have hb := bI_f hb
    have b2 := hb
    replace h := h.1 hb
    refine s_iconst (q := 23) 11 rfl ?_
    exact s_iret 12 rfl rfl h
  · have hb := bI_t hb
    have b2 := hb
    replace h := h.2 hb
    refine s_iload_n (q := 13) 6 2 rfl rfl ?_
    refine s_iload_n (q := 14) 7 3 rfl rfl ?_
    refine s_iload (q := 16) 8 4 rfl rfl ?_
    refine n_callS (N := mX12_isTuple) (as := [(0, x2), (0, x3), (0, x4)]) (st := []) (q := 19) (d' := 2) 9 rfl uX12_isTuple kX12_516 rfl (pX12_isTuple ?_)
    show PW l G 8 mX12_bestIndex bg 19 [(0, (2, x0)), (1, (0, x1)), (2, (0, x2)), (3, (0, x3)), (4, (0, x4))] [(0, bI ((0 ≤ x2 ∧ x2 < 3) ∧ (0 ≤ x3 ∧ x3 < 10) ∧ (0 ≤ x4 ∧ x4 < 10)))] (n, K, F1, E) Q
    refine s_if_ne (q := 22) (tgt := 24) 10 rfl rfl (fun hb => ?_) (fun hb => ?_)
    · have hb := bI_t hb
      have b3 := hb
      replace h := h.1 hb
      refine s_aload_n (q := 25) 13 0 rfl rfl ?_
      refine n_getf (q := 28) (jj := 3) 14 12 3 rfl kX12_13 c1 ?_
      refine PW.top (b := F x0 3) (by exact (congrFun (congrFun eF1 _) _).trans (pUp_k (by decide))) ?_
      refine s_bipush (q := 30) 15 rfl ?_
      refine s_iload_n (q := 31) 16 1 rfl rfl ?_
      obtain ⟨c4, h⟩ := h
      refine n_iadd (q := 32) 17 rfl c4 ?_
      obtain ⟨c5, h⟩ := h
      obtain ⟨c6, h⟩ := h
      refine n_iald (q := 33) 18 rfl c5 c6 ?_
      refine s_istore (q := 35) (lv' := [(5, (0, E (F x0 3) (12 + x1))), (0, (2, x0)), (1, (0, x1)), (2, (0, x2)), (3, (0, x3)), (4, (0, x4))]) 19 rfl rfl ?_
      refine s_ldcw (q := 38) (x := 100000000) 20 rfl kX12_550 ?_
      refine s_istore (q := 40) (lv' := [(6, (0, 100000000)), (5, (0, E (F x0 3) (12 + x1))), (0, (2, x0)), (1, (0, x1)), (2, (0, x2)), (3, (0, x3)), (4, (0, x4))]) 21 rfl rfl ?_
      refine s_iconst (q := 41) 22 rfl ?_
      refine s_istore (q := 43) (lv' := [(7, (0, (-1))), (6, (0, 100000000)), (5, (0, E (F x0 3) (12 + x1))), (0, (2, x0)), (1, (0, x1)), (2, (0, x2)), (3, (0, x3)), (4, (0, x4))]) 23 rfl rfl ?_
      refine s_iconst (q := 44) 24 rfl ?_
      refine s_istore (q := 46) (lv' := [(8, (0, 0)), (7, (0, (-1))), (6, (0, 100000000)), (5, (0, E (F x0 3) (12 + x1))), (0, (2, x0)), (1, (0, x1)), (2, (0, x2)), (3, (0, x3)), (4, (0, x4))]) 25 rfl rfl ?_
      refine PW.pick [4, 5, 6, 7, 8, 3, 2, 1, 0] rfl ?_
      exact h
    · have hb := bI_f2 hb
      have b3 := hb
      replace h := h.2 hb
      refine s_iconst (q := 23) 11 rfl ?_
      exact s_iret 12 rfl rfl h
theorem vX12_bestIndex_46 {l : Launch} {G : pG} {bg : Nat × Nat} {n : Nat} {K : Int → Nat × Nat} {F E : Int → Int → Int} {Q : Option pV → pM → Prop} (x0 x1 x2 x3 x4 x5 x6 x7 x8 : Int) (h : ((3 ≤ x8 → (K x0).1 = 12 ∧ (-2147483648 ≤ 12 + x1 ∧ 12 + x1 < 2147483648) ∧ (0 : Int) ≤ F x0 3 ∧ (K (F x0 3)).1 = 20 ∧ ((0 : Int) ≤ 12 + x1 ∧ 12 + x1 < ((K (F x0 3)).2 : Int)) ∧ (∀ E1, E1 = pUp E (F x0 3) (12 + x1) x5 → Q (some (0, x7)) (n, K, F, E1))) ∧ (¬ (3 ≤ x8) → (K x0).1 = 12 ∧ (-2147483648 ≤ 12 + x1 ∧ 12 + x1 < 2147483648) ∧ (0 : Int) ≤ F x0 3 ∧ (K (F x0 3)).1 = 20 ∧ ((0 : Int) ≤ 12 + x1 ∧ 12 + x1 < ((K (F x0 3)).2 : Int)) ∧ (∀ E2, E2 = pUp E (F x0 3) (12 + x1) x8 → PC l G 7 mX12_costNow (0, 0) [(2, x0), (0, x2), (0, x3), (0, x4)] (n, K, F, E2) (fun r μ => PW l G 8 mX12_bestIndex bg 71 [(0, (2, x0)), (1, (0, x1)), (2, (0, x2)), (3, (0, x3)), (4, (0, x4)), (5, (0, x5)), (6, (0, x6)), (7, (0, x7)), (8, (0, x8))] (r.toList ++ []) μ Q))))) : PW l G 8 mX12_bestIndex bg 46 [(0, (2, x0)), (1, (0, x1)), (2, (0, x2)), (3, (0, x3)), (4, (0, x4)), (5, (0, x5)), (6, (0, x6)), (7, (0, x7)), (8, (0, x8))] [] (n, K, F, E) Q := by
  refine s_iload (q := 48) 26 8 rfl rfl ?_
  refine s_iconst (q := 49) 27 rfl ?_
  refine s_icmp_ge (q := 52) (tgt := 111) 28 rfl rfl (fun hb => ?_) (fun hb => ?_)
  · skip
    have b1 := hb
    replace h := h.1 hb
    refine s_aload_n (q := 112) 58 0 rfl rfl ?_
    obtain ⟨c2, h⟩ := h
    refine n_getf (q := 115) (jj := 3) 59 12 3 rfl kX12_13 c2 ?_
    refine s_bipush (q := 117) 60 rfl ?_
    refine s_iload_n (q := 118) 61 1 rfl rfl ?_
    obtain ⟨c3, h⟩ := h
    refine n_iadd (q := 119) 62 rfl c3 ?_
    refine s_iload (q := 121) 63 5 rfl rfl ?_
    obtain ⟨c4, h⟩ := h
    obtain ⟨c5, h⟩ := h
    obtain ⟨c6, h⟩ := h
    refine n_iast (q := 122) 64 rfl c4 c5 c6 ?_
    refine PW.nameE (fun E1 eE1 => ?_)
    replace h := h E1 eE1
    refine s_iload (q := 124) 65 7 rfl rfl ?_
    exact s_iret 66 rfl rfl h
  · skip
    have b1 := hb
    replace h := h.2 hb
    refine s_aload_n (q := 53) 29 0 rfl rfl ?_
    obtain ⟨c7, h⟩ := h
    refine n_getf (q := 56) (jj := 3) 30 12 3 rfl kX12_13 c7 ?_
    refine s_bipush (q := 58) 31 rfl ?_
    refine s_iload_n (q := 59) 32 1 rfl rfl ?_
    obtain ⟨c8, h⟩ := h
    refine n_iadd (q := 60) 33 rfl c8 ?_
    refine s_iload (q := 62) 34 8 rfl rfl ?_
    obtain ⟨c9, h⟩ := h
    obtain ⟨c10, h⟩ := h
    obtain ⟨c11, h⟩ := h
    refine n_iast (q := 63) 35 rfl c9 c10 c11 ?_
    refine PW.nameE (fun E2 eE2 => ?_)
    replace h := h E2 eE2
    refine s_aload_n (q := 64) 36 0 rfl rfl ?_
    refine s_iload_n (q := 65) 37 2 rfl rfl ?_
    refine s_iload_n (q := 66) 38 3 rfl rfl ?_
    refine s_iload (q := 68) 39 4 rfl rfl ?_
    refine PW.pick [0, 1, 2, 3, 4, 5, 6, 7, 8] rfl ?_
    exact n_callV (N := mX12_costNow) (as := [(0, x2), (0, x3), (0, x4)]) (st := []) (q := 71) (d' := 7) 40 rfl uX12_costNow kX12_551 rfl c7 h
theorem vX12_bestIndex_71 {l : Launch} {G : pG} {bg : Nat × Nat} {n : Nat} {K : Int → Nat × Nat} {F E : Int → Int → Int} {Q : Option pV → pM → Prop} (x0 x1 x2 x3 x4 x5 x6 x7 x8 s0 : Int) (h : ((x6 ≤ s0 → ((x6 ≤ s0 → (-2147483648 ≤ x8 + 1 ∧ x8 + 1 < 2147483648) ∧ PW l G 8 mX12_bestIndex bg 46 [(0, (2, x0)), (1, (0, x1)), (2, (0, x2)), (3, (0, x3)), (4, (0, x4)), (5, (0, x5)), (6, (0, x6)), (7, (0, x7)), (8, (0, x8 + 1))] [] (n, K, F, E) Q) ∧ (¬ (x6 ≤ s0) → (-2147483648 ≤ x8 + 1 ∧ x8 + 1 < 2147483648) ∧ PW l G 8 mX12_bestIndex bg 46 [(0, (2, x0)), (1, (0, x1)), (2, (0, x2)), (3, (0, x3)), (4, (0, x4)), (5, (0, x5)), (6, (0, s0)), (7, (0, x7)), (8, (0, x8 + 1))] [] (n, K, F, E) Q))) ∧ (¬ (x6 ≤ s0) → ((x6 ≤ s0 → (-2147483648 ≤ x8 + 1 ∧ x8 + 1 < 2147483648) ∧ PW l G 8 mX12_bestIndex bg 46 [(0, (2, x0)), (1, (0, x1)), (2, (0, x2)), (3, (0, x3)), (4, (0, x4)), (5, (0, x5)), (6, (0, x6)), (7, (0, x8)), (8, (0, x8 + 1))] [] (n, K, F, E) Q) ∧ (¬ (x6 ≤ s0) → (-2147483648 ≤ x8 + 1 ∧ x8 + 1 < 2147483648) ∧ PW l G 8 mX12_bestIndex bg 46 [(0, (2, x0)), (1, (0, x1)), (2, (0, x2)), (3, (0, x3)), (4, (0, x4)), (5, (0, x5)), (6, (0, s0)), (7, (0, x8)), (8, (0, x8 + 1))] [] (n, K, F, E) Q))))) : PW l G 8 mX12_bestIndex bg 71 [(0, (2, x0)), (1, (0, x1)), (2, (0, x2)), (3, (0, x3)), (4, (0, x4)), (5, (0, x5)), (6, (0, x6)), (7, (0, x7)), (8, (0, x8))] [(0, s0)] (n, K, F, E) Q := by
  refine s_istore (q := 73) (lv' := [(9, (0, s0)), (0, (2, x0)), (1, (0, x1)), (2, (0, x2)), (3, (0, x3)), (4, (0, x4)), (5, (0, x5)), (6, (0, x6)), (7, (0, x7)), (8, (0, x8))]) 41 rfl rfl ?_
  refine s_iload (q := 75) 42 0 rfl rfl ?_
  refine s_iload (q := 77) 43 7 rfl rfl ?_
  refine s_icmp_ge (q := 80) (tgt := 85) 44 rfl rfl (fun hb => ?_) (fun hb => ?_)
  · skip
    have b1 := hb
    replace h := h.1 hb
    refine s_iload (q := 87) 47 8 rfl rfl ?_
    refine s_istore (q := 89) (lv' := [(7, (0, x7)), (9, (0, s0)), (0, (2, x0)), (1, (0, x1)), (2, (0, x2)), (3, (0, x3)), (4, (0, x4)), (5, (0, x5)), (6, (0, x6)), (8, (0, x8))]) 48 rfl rfl ?_
    refine s_iload (q := 91) 49 1 rfl rfl ?_
    refine s_iload (q := 93) 50 8 rfl rfl ?_
    refine s_icmp_ge (q := 96) (tgt := 101) 51 rfl rfl (fun hb => ?_) (fun hb => ?_)
    · skip
      have b2 := hb
      replace h := h.1 hb
      refine s_iload (q := 103) 54 8 rfl rfl ?_
      refine s_istore (q := 105) (lv' := [(6, (0, x6)), (7, (0, x7)), (9, (0, s0)), (0, (2, x0)), (1, (0, x1)), (2, (0, x2)), (3, (0, x3)), (4, (0, x4)), (5, (0, x5)), (8, (0, x8))]) 55 rfl rfl ?_
      obtain ⟨c3, h⟩ := h
      refine n_iinc (q := 108) (lv' := [(8, (0, x8 + 1)), (6, (0, x6)), (7, (0, x7)), (9, (0, s0)), (0, (2, x0)), (1, (0, x1)), (2, (0, x2)), (3, (0, x3)), (4, (0, x4)), (5, (0, x5))]) 56 9 rfl rfl c3 rfl ?_
      refine s_goto (tgt := 46) 57 rfl rfl ?_
      refine PW.pick [4, 5, 6, 7, 8, 9, 1, 2, 0] rfl ?_
      exact h
    · skip
      have b2 := hb
      replace h := h.2 hb
      refine s_iload (q := 98) 52 1 rfl rfl ?_
      refine s_goto (tgt := 103) 53 rfl rfl ?_
      refine s_istore (q := 105) (lv' := [(6, (0, s0)), (7, (0, x7)), (9, (0, s0)), (0, (2, x0)), (1, (0, x1)), (2, (0, x2)), (3, (0, x3)), (4, (0, x4)), (5, (0, x5)), (8, (0, x8))]) 55 rfl rfl ?_
      obtain ⟨c4, h⟩ := h
      refine n_iinc (q := 108) (lv' := [(8, (0, x8 + 1)), (6, (0, s0)), (7, (0, x7)), (9, (0, s0)), (0, (2, x0)), (1, (0, x1)), (2, (0, x2)), (3, (0, x3)), (4, (0, x4)), (5, (0, x5))]) 56 9 rfl rfl c4 rfl ?_
      refine s_goto (tgt := 46) 57 rfl rfl ?_
      refine PW.pick [4, 5, 6, 7, 8, 9, 1, 2, 0] rfl ?_
      exact h
  · skip
    have b1 := hb
    replace h := h.2 hb
    refine s_iload (q := 82) 45 9 rfl rfl ?_
    refine s_goto (tgt := 87) 46 rfl rfl ?_
    refine s_istore (q := 89) (lv' := [(7, (0, x8)), (9, (0, s0)), (0, (2, x0)), (1, (0, x1)), (2, (0, x2)), (3, (0, x3)), (4, (0, x4)), (5, (0, x5)), (6, (0, x6)), (8, (0, x8))]) 48 rfl rfl ?_
    refine s_iload (q := 91) 49 1 rfl rfl ?_
    refine s_iload (q := 93) 50 8 rfl rfl ?_
    refine s_icmp_ge (q := 96) (tgt := 101) 51 rfl rfl (fun hb => ?_) (fun hb => ?_)
    · skip
      have b5 := hb
      replace h := h.1 hb
      refine s_iload (q := 103) 54 8 rfl rfl ?_
      refine s_istore (q := 105) (lv' := [(6, (0, x6)), (7, (0, x8)), (9, (0, s0)), (0, (2, x0)), (1, (0, x1)), (2, (0, x2)), (3, (0, x3)), (4, (0, x4)), (5, (0, x5)), (8, (0, x8))]) 55 rfl rfl ?_
      obtain ⟨c6, h⟩ := h
      refine n_iinc (q := 108) (lv' := [(8, (0, x8 + 1)), (6, (0, x6)), (7, (0, x8)), (9, (0, s0)), (0, (2, x0)), (1, (0, x1)), (2, (0, x2)), (3, (0, x3)), (4, (0, x4)), (5, (0, x5))]) 56 9 rfl rfl c6 rfl ?_
      refine s_goto (tgt := 46) 57 rfl rfl ?_
      refine PW.pick [4, 5, 6, 7, 8, 9, 1, 2, 0] rfl ?_
      exact h
    · skip
      have b5 := hb
      replace h := h.2 hb
      refine s_iload (q := 98) 52 1 rfl rfl ?_
      refine s_goto (tgt := 103) 53 rfl rfl ?_
      refine s_istore (q := 105) (lv' := [(6, (0, s0)), (7, (0, x8)), (9, (0, s0)), (0, (2, x0)), (1, (0, x1)), (2, (0, x2)), (3, (0, x3)), (4, (0, x4)), (5, (0, x5)), (8, (0, x8))]) 55 rfl rfl ?_
      obtain ⟨c7, h⟩ := h
      refine n_iinc (q := 108) (lv' := [(8, (0, x8 + 1)), (6, (0, s0)), (7, (0, x8)), (9, (0, s0)), (0, (2, x0)), (1, (0, x1)), (2, (0, x2)), (3, (0, x3)), (4, (0, x4)), (5, (0, x5))]) 56 9 rfl rfl c7 rfl ?_
      refine s_goto (tgt := 46) 57 rfl rfl ?_
      refine PW.pick [4, 5, 6, 7, 8, 9, 1, 2, 0] rfl ?_
      exact h
theorem vX12_compare_0 {l : Launch} {G : pG} {bg : Nat × Nat} {n : Nat} {K : Int → Nat × Nat} {F E : Int → Int → Int} {Q : Option pV → pM → Prop} (x0 x1 x2 x3 x4 : Int) (h : (K x0).1 = 12 ∧ (∀ F1, F1 = pUp F x0 0 0 → (K (F1 x0 3)).1 = 20 ∧ ((0 : Int) ≤ 1 ∧ 1 < ((K (F1 x0 3)).2 : Int)) ∧ (-9223372036854775808 ≤ (E (F1 x0 3) 1) - 1 ∧ (E (F1 x0 3) 1) - 1 < 9223372036854775808) ∧ ((¬ (x1 = -1 ∨ (0 ≤ x1 ∧ x1 ≤ (E (F1 x0 3) 1) - 1)) → Q (some (0, (-1))) (n, K, F1, E)) ∧ (x1 = -1 ∨ (0 ≤ x1 ∧ x1 ≤ (E (F1 x0 3) 1) - 1) → (((0 ≤ x2 ∧ x2 < 3) ∧ (0 ≤ x3 ∧ x3 < 10) ∧ (0 ≤ x4 ∧ x4 < 10) → (K (F x0 3)).1 = 20 ∧ ((0 : Int) ≤ 2 ∧ 2 < ((K (F x0 3)).2 : Int)) ∧ (0 : Int) ≤ F x0 3 ∧ (∀ E2, E2 = pUp E (F x0 3) 2 x1 → PC l G 7 mX12_costNow (0, 0) [(2, x0), (0, x2), (0, x3), (0, x4)] (n, K, F1, E2) (fun r μ => PW l G 8 mX12_compare bg 48 [(0, (2, x0)), (5, (0, E (F x0 3) 2))] (r.toList ++ []) μ Q))) ∧ (¬ ((0 ≤ x2 ∧ x2 < 3) ∧ (0 ≤ x3 ∧ x3 < 10) ∧ (0 ≤ x4 ∧ x4 < 10)) → Q (some (0, (-1))) (n, K, F1, E))))))) : PW l G 8 mX12_compare bg 0 [(0, (2, x0)), (1, (0, x1)), (2, (0, x2)), (3, (0, x3)), (4, (0, x4))] [] (n, K, F, E) Q := by
  refine s_aload_n (q := 1) 0 0 rfl rfl ?_
  refine s_iconst (q := 2) 1 rfl ?_
  obtain ⟨c1, h⟩ := h
  refine n_putf (q := 5) (jj := 0) 2 12 0 rfl kX12_174 c1 (Or.inl rfl) ?_
  refine PW.nameF (fun F1 eF1 => ?_)
  replace h := h F1 eF1
  refine s_aload_n (q := 6) 3 0 rfl rfl ?_
  refine s_iload_n (q := 7) 4 1 rfl rfl ?_
  obtain ⟨c2, h⟩ := h
  obtain ⟨c3, h⟩ := h
  obtain ⟨c4, h⟩ := h
  refine n_callV (N := mX12_isLaw) (as := [(0, x1)]) (st := []) (q := 10) (d' := 1) 5 rfl uX12_isLaw kX12_400 rfl c1 (pX12_isLaw c1 c2 c3 c4 ?_)
  show PW l G 8 mX12_compare bg 10 [(0, (2, x0)), (1, (0, x1)), (2, (0, x2)), (3, (0, x3)), (4, (0, x4))] [(0, bI (x1 = -1 ∨ (0 ≤ x1 ∧ x1 ≤ (E (F1 x0 3) 1) - 1)))] (n, K, F1, E) Q
  refine s_if_eq (q := 13) (tgt := 23) 6 rfl rfl (fun hb => ?_) (fun hb => ?_)
  · have hb := bI_f hb
    have b5 := hb
    replace h := h.1 hb
    refine s_iconst (q := 24) 12 rfl ?_
    exact s_iret 13 rfl rfl h
  · have hb := bI_t hb
    have b5 := hb
    replace h := h.2 hb
    refine s_iload_n (q := 14) 7 2 rfl rfl ?_
    refine s_iload_n (q := 15) 8 3 rfl rfl ?_
    refine s_iload (q := 17) 9 4 rfl rfl ?_
    refine n_callS (N := mX12_isTuple) (as := [(0, x2), (0, x3), (0, x4)]) (st := []) (q := 20) (d' := 2) 10 rfl uX12_isTuple kX12_516 rfl (pX12_isTuple ?_)
    show PW l G 8 mX12_compare bg 20 [(0, (2, x0)), (1, (0, x1)), (2, (0, x2)), (3, (0, x3)), (4, (0, x4))] [(0, bI ((0 ≤ x2 ∧ x2 < 3) ∧ (0 ≤ x3 ∧ x3 < 10) ∧ (0 ≤ x4 ∧ x4 < 10)))] (n, K, F1, E) Q
    refine s_if_ne (q := 23) (tgt := 25) 11 rfl rfl (fun hb => ?_) (fun hb => ?_)
    · have hb := bI_t hb
      have b6 := hb
      replace h := h.1 hb
      refine s_aload_n (q := 26) 14 0 rfl rfl ?_
      refine n_getf (q := 29) (jj := 3) 15 12 3 rfl kX12_13 c1 ?_
      refine PW.top (b := F x0 3) (by exact (congrFun (congrFun eF1 _) _).trans (pUp_k (by decide))) ?_
      refine s_iconst (q := 30) 16 rfl ?_
      obtain ⟨c7, h⟩ := h
      obtain ⟨c8, h⟩ := h
      refine n_iald (q := 31) 17 rfl c7 c8 ?_
      refine s_istore (q := 33) (lv' := [(5, (0, E (F x0 3) 2)), (0, (2, x0)), (1, (0, x1)), (2, (0, x2)), (3, (0, x3)), (4, (0, x4))]) 18 rfl rfl ?_
      refine s_aload_n (q := 34) 19 1 rfl rfl ?_
      refine n_getf (q := 37) (jj := 3) 20 12 3 rfl kX12_13 c1 ?_
      refine PW.top (b := F x0 3) (by exact (congrFun (congrFun eF1 _) _).trans (pUp_k (by decide))) ?_
      refine s_iconst (q := 38) 21 rfl ?_
      refine s_iload_n (q := 39) 22 2 rfl rfl ?_
      obtain ⟨c9, h⟩ := h
      refine n_iast (q := 40) 23 rfl c9 c7 c8 ?_
      refine PW.nameE (fun E2 eE2 => ?_)
      replace h := h E2 eE2
      refine s_aload_n (q := 41) 24 1 rfl rfl ?_
      refine s_iload_n (q := 42) 25 3 rfl rfl ?_
      refine s_iload_n (q := 43) 26 4 rfl rfl ?_
      refine s_iload (q := 45) 27 5 rfl rfl ?_
      refine PW.pick [1, 0] rfl ?_
      exact n_callV (N := mX12_costNow) (as := [(0, x2), (0, x3), (0, x4)]) (st := []) (q := 48) (d' := 7) 28 rfl uX12_costNow kX12_551 rfl c1 h
    · have hb := bI_f2 hb
      have b6 := hb
      replace h := h.2 hb
      refine s_iconst (q := 24) 12 rfl ?_
      exact s_iret 13 rfl rfl h
theorem vX12_compare_48 {l : Launch} {G : pG} {bg : Nat × Nat} {n : Nat} {K : Int → Nat × Nat} {F E : Int → Int → Int} {Q : Option pV → pM → Prop} (x0 x5 s0 : Int) (h : (K x0).1 = 12 ∧ (0 : Int) ≤ F x0 3 ∧ (K (F x0 3)).1 = 20 ∧ ((0 : Int) ≤ 2 ∧ 2 < ((K (F x0 3)).2 : Int)) ∧ (∀ E1, E1 = pUp E (F x0 3) 2 x5 → Q (some (0, s0)) (n, K, F, E1))) : PW l G 8 mX12_compare bg 48 [(0, (2, x0)), (5, (0, x5))] [(0, s0)] (n, K, F, E) Q := by
  refine s_istore (q := 50) (lv' := [(6, (0, s0)), (0, (2, x0)), (5, (0, x5))]) 29 rfl rfl ?_
  refine s_aload_n (q := 51) 30 1 rfl rfl ?_
  obtain ⟨c1, h⟩ := h
  refine n_getf (q := 54) (jj := 3) 31 12 3 rfl kX12_13 c1 ?_
  refine s_iconst (q := 55) 32 rfl ?_
  refine s_iload (q := 57) 33 2 rfl rfl ?_
  obtain ⟨c2, h⟩ := h
  obtain ⟨c3, h⟩ := h
  obtain ⟨c4, h⟩ := h
  refine n_iast (q := 58) 34 rfl c2 c3 c4 ?_
  refine PW.nameE (fun E1 eE1 => ?_)
  replace h := h E1 eE1
  refine s_iload (q := 60) 35 0 rfl rfl ?_
  exact s_iret 36 rfl rfl h
theorem vX12_seen_0 {l : Launch} {G : pG} {bg : Nat × Nat} {n : Nat} {K : Int → Nat × Nat} {F E : Int → Int → Int} {Q : Option pV → pM → Prop} (x0 x1 x2 : Int) (h : (K x0).1 = 12 ∧ (∀ F1, F1 = pUp F x0 0 0 → ((¬ (0 ≤ x1 ∧ x1 ≤ 2) → PC l G 0 mX12_tell (0, 0) [(2, x0), (0, (-1))] (n, K, F1, E) (fun r μ => PW l G 1 mX12_seen bg 34 [] (r.toList ++ []) μ Q)) ∧ (0 ≤ x1 ∧ x1 ≤ 2 → ((0 ≤ x2 ∧ x2 ≤ 9 → (K (F x0 3)).1 = 20 ∧ ((0 : Int) ≤ 0 ∧ 0 < ((K (F x0 3)).2 : Int)) ∧ ((¬ (E (F x0 3) 0) = 6 → (-2147483648 ≤ 2 * (E (F x0 3) 0) ∧ 2 * (E (F x0 3) 0) < 2147483648) ∧ (-2147483648 ≤ 123 + (2 * (E (F x0 3) 0)) ∧ 123 + (2 * (E (F x0 3) 0)) < 2147483648) ∧ (0 : Int) ≤ F x0 3 ∧ ((0 : Int) ≤ 123 + (2 * (E (F x0 3) 0)) ∧ 123 + (2 * (E (F x0 3) 0)) < ((K (F x0 3)).2 : Int)) ∧ (∀ E2, E2 = pUp E (F x0 3) (123 + (2 * (E (F x0 3) 0))) x1 → (-2147483648 ≤ (123 + (2 * (E (F x0 3) 0))) + 1 ∧ (123 + (2 * (E (F x0 3) 0))) + 1 < 2147483648) ∧ ((0 : Int) ≤ (123 + (2 * (E (F x0 3) 0))) + 1 ∧ (123 + (2 * (E (F x0 3) 0))) + 1 < ((K (F x0 3)).2 : Int)) ∧ (∀ E3, E3 = pUp E2 (F x0 3) ((123 + (2 * (E (F x0 3) 0))) + 1) x2 → (-2147483648 ≤ (E3 (F x0 3) 0) + 1 ∧ (E3 (F x0 3) 0) + 1 < 2147483648) ∧ (∀ E4, E4 = pUp E3 (F x0 3) 0 ((E3 (F x0 3) 0) + 1) → (-2147483648 ≤ (E (F x0 3) 0) + 1 ∧ (E (F x0 3) 0) + 1 < 2147483648) ∧ PC l G 0 mX12_tell (0, 0) [(2, x0), (0, (E (F x0 3) 0) + 1)] (n, K, F1, E4) (fun r μ => PW l G 1 mX12_seen bg 98 [] (r.toList ++ []) μ Q))))) ∧ ((E (F x0 3) 0) = 6 → PC l G 0 mX12_tell (0, 0) [(2, x0), (0, (-5))] (n, K, F1, E) (fun r μ => PW l G 1 mX12_seen bg 54 [] (r.toList ++ []) μ Q)))) ∧ (¬ (0 ≤ x2 ∧ x2 ≤ 9) → PC l G 0 mX12_tell (0, 0) [(2, x0), (0, (-1))] (n, K, F1, E) (fun r μ => PW l G 1 mX12_seen bg 34 [] (r.toList ++ []) μ Q))))))) : PW l G 1 mX12_seen bg 0 [(0, (2, x0)), (1, (0, x1)), (2, (0, x2))] [] (n, K, F, E) Q := by
  refine s_aload_n (q := 1) 0 0 rfl rfl ?_
  refine s_iconst (q := 2) 1 rfl ?_
  obtain ⟨c1, h⟩ := h
  refine n_putf (q := 5) (jj := 0) 2 12 0 rfl kX12_174 c1 (Or.inl rfl) ?_
  refine PW.nameF (fun F1 eF1 => ?_)
  replace h := h F1 eF1
  refine s_iload_n (q := 6) 3 1 rfl rfl ?_
  refine s_i2l (q := 7) 4 rfl ?_
  refine s_lconst (q := 8) (x := 0) 5 rfl ?_
  refine s_ldc2 (q := 11) (x := 2) 6 rfl kX12_61 ?_
  refine n_callS (N := mX12_in) (as := [(1, x1), (1, 0), (1, 2)]) (st := []) (q := 14) (d' := 0) 7 rfl uX12_in kX12_197 rfl (pX12_in ?_)
  show PW l G 1 mX12_seen bg 14 [(0, (2, x0)), (1, (0, x1)), (2, (0, x2))] [(0, bI (0 ≤ x1 ∧ x1 ≤ 2))] (n, K, F1, E) Q
  refine s_if_eq (q := 17) (tgt := 29) 8 rfl rfl (fun hb => ?_) (fun hb => ?_)
  · have hb := bI_f hb
    have b2 := hb
    replace h := h.1 hb
    refine s_aload_n (q := 30) 15 0 rfl rfl ?_
    refine s_iconst (q := 31) 16 rfl ?_
    refine PW.pick [] rfl ?_
    exact n_callV (N := mX12_tell) (as := [(0, (-1))]) (st := []) (q := 34) (d' := 0) 17 rfl uX12_tell kX12_190 rfl c1 h
  · have hb := bI_t hb
    have b2 := hb
    replace h := h.2 hb
    refine s_iload_n (q := 18) 9 2 rfl rfl ?_
    refine s_i2l (q := 19) 10 rfl ?_
    refine s_lconst (q := 20) (x := 0) 11 rfl ?_
    refine s_ldc2 (q := 23) (x := 9) 12 rfl kX12_205 ?_
    refine n_callS (N := mX12_in) (as := [(1, x2), (1, 0), (1, 9)]) (st := []) (q := 26) (d' := 0) 13 rfl uX12_in kX12_197 rfl (pX12_in ?_)
    show PW l G 1 mX12_seen bg 26 [(0, (2, x0)), (1, (0, x1)), (2, (0, x2))] [(0, bI (0 ≤ x2 ∧ x2 ≤ 9))] (n, K, F1, E) Q
    refine s_if_ne (q := 29) (tgt := 35) 14 rfl rfl (fun hb => ?_) (fun hb => ?_)
    · have hb := bI_t hb
      have b3 := hb
      replace h := h.1 hb
      refine s_aload_n (q := 36) 19 0 rfl rfl ?_
      refine n_getf (q := 39) (jj := 3) 20 12 3 rfl kX12_13 c1 ?_
      refine PW.top (b := F x0 3) (by exact (congrFun (congrFun eF1 _) _).trans (pUp_k (by decide))) ?_
      refine s_iconst (q := 40) 21 rfl ?_
      obtain ⟨c4, h⟩ := h
      obtain ⟨c5, h⟩ := h
      refine n_iald (q := 41) 22 rfl c4 c5 ?_
      refine s_istore_n (q := 42) (lv' := [(3, (0, E (F x0 3) 0)), (0, (2, x0)), (1, (0, x1)), (2, (0, x2))]) 23 rfl rfl ?_
      refine s_iload_n (q := 43) 24 0 rfl rfl ?_
      refine s_bipush (q := 45) 25 rfl ?_
      refine s_icmp_ne (q := 48) (tgt := 55) 26 rfl rfl (fun hb => ?_) (fun hb => ?_)
      · skip
        have b6 := hb
        replace h := h.1 hb
        refine s_aload_n (q := 56) 31 1 rfl rfl ?_
        refine n_getf (q := 59) (jj := 3) 32 12 3 rfl kX12_13 c1 ?_
        refine PW.top (b := F x0 3) (by exact (congrFun (congrFun eF1 _) _).trans (pUp_k (by decide))) ?_
        refine s_bipush (q := 61) 33 rfl ?_
        refine s_iconst (q := 62) 34 rfl ?_
        refine s_iload_n (q := 63) 35 0 rfl rfl ?_
        obtain ⟨c7, h⟩ := h
        refine n_imul (q := 64) 36 rfl c7 ?_
        obtain ⟨c8, h⟩ := h
        refine n_iadd (q := 65) 37 rfl c8 ?_
        refine s_iload_n (q := 66) 38 2 rfl rfl ?_
        obtain ⟨c9, h⟩ := h
        obtain ⟨c10, h⟩ := h
        refine n_iast (q := 67) 39 rfl c9 c4 c10 ?_
        refine PW.nameE (fun E2 eE2 => ?_)
        replace h := h E2 eE2
        refine s_aload_n (q := 68) 40 1 rfl rfl ?_
        refine n_getf (q := 71) (jj := 3) 41 12 3 rfl kX12_13 c1 ?_
        refine PW.top (b := F x0 3) (by exact (congrFun (congrFun eF1 _) _).trans (pUp_k (by decide))) ?_
        refine s_bipush (q := 73) 42 rfl ?_
        refine s_iconst (q := 74) 43 rfl ?_
        refine s_iload_n (q := 75) 44 0 rfl rfl ?_
        refine n_imul (q := 76) 45 rfl c7 ?_
        refine n_iadd (q := 77) 46 rfl c8 ?_
        refine s_iconst (q := 78) 47 rfl ?_
        obtain ⟨c11, h⟩ := h
        refine n_iadd (q := 79) 48 rfl c11 ?_
        refine s_iload_n (q := 80) 49 3 rfl rfl ?_
        obtain ⟨c12, h⟩ := h
        refine n_iast (q := 81) 50 rfl c9 c4 c12 ?_
        refine PW.nameE (fun E3 eE3 => ?_)
        replace h := h E3 eE3
        refine s_aload_n (q := 82) 51 1 rfl rfl ?_
        refine n_getf (q := 85) (jj := 3) 52 12 3 rfl kX12_13 c1 ?_
        refine PW.top (b := F x0 3) (by exact (congrFun (congrFun eF1 _) _).trans (pUp_k (by decide))) ?_
        refine s_iconst (q := 86) 53 rfl ?_
        refine s_dup2 (q := 87) 54 rfl ?_
        refine n_iald (q := 88) 55 rfl c4 c5 ?_
        refine s_iconst (q := 89) 56 rfl ?_
        obtain ⟨c13, h⟩ := h
        refine n_iadd (q := 90) 57 rfl c13 ?_
        refine n_iast (q := 91) 58 rfl c9 c4 c5 ?_
        refine PW.nameE (fun E4 eE4 => ?_)
        replace h := h E4 eE4
        refine s_aload_n (q := 92) 59 1 rfl rfl ?_
        refine s_iload_n (q := 93) 60 0 rfl rfl ?_
        refine s_iconst (q := 94) 61 rfl ?_
        obtain ⟨c14, h⟩ := h
        refine n_iadd (q := 95) 62 rfl c14 ?_
        refine PW.pick [] rfl ?_
        exact n_callV (N := mX12_tell) (as := [(0, (E (F x0 3) 0) + 1)]) (st := []) (q := 98) (d' := 0) 63 rfl uX12_tell kX12_190 rfl c1 h
      · have hb := Classical.not_not.mp hb
        have b6 := hb
        replace h := h.2 hb
        refine s_aload_n (q := 49) 27 1 rfl rfl ?_
        refine s_bipush (q := 51) 28 rfl ?_
        refine PW.pick [] rfl ?_
        exact n_callV (N := mX12_tell) (as := [(0, (-5))]) (st := []) (q := 54) (d' := 0) 29 rfl uX12_tell kX12_190 rfl c1 h
    · have hb := bI_f2 hb
      have b3 := hb
      replace h := h.2 hb
      refine s_aload_n (q := 30) 15 0 rfl rfl ?_
      refine s_iconst (q := 31) 16 rfl ?_
      refine PW.pick [] rfl ?_
      exact n_callV (N := mX12_tell) (as := [(0, (-1))]) (st := []) (q := 34) (d' := 0) 17 rfl uX12_tell kX12_190 rfl c1 h
theorem vX12_seen_34 {l : Launch} {G : pG} {bg : Nat × Nat} {n : Nat} {K : Int → Nat × Nat} {F E : Int → Int → Int} {Q : Option pV → pM → Prop} (s0 : Int) (h : Q (some (0, s0)) (n, K, F, E)) : PW l G 1 mX12_seen bg 34 [] [(0, s0)] (n, K, F, E) Q := by
  exact s_iret 18 rfl rfl h
theorem vX12_seen_54 {l : Launch} {G : pG} {bg : Nat × Nat} {n : Nat} {K : Int → Nat × Nat} {F E : Int → Int → Int} {Q : Option pV → pM → Prop} (s0 : Int) (h : Q (some (0, s0)) (n, K, F, E)) : PW l G 1 mX12_seen bg 54 [] [(0, s0)] (n, K, F, E) Q := by
  exact s_iret 30 rfl rfl h
theorem vX12_seen_98 {l : Launch} {G : pG} {bg : Nat × Nat} {n : Nat} {K : Int → Nat × Nat} {F E : Int → Int → Int} {Q : Option pV → pM → Prop} (s0 : Int) (h : Q (some (0, s0)) (n, K, F, E)) : PW l G 1 mX12_seen bg 98 [] [(0, s0)] (n, K, F, E) Q := by
  exact s_iret 64 rfl rfl h
theorem vX12_forget_0 {l : Launch} {G : pG} {bg : Nat × Nat} {n : Nat} {K : Int → Nat × Nat} {F E : Int → Int → Int} {Q : Option pV → pM → Prop} (x0 : Int) (h : (K x0).1 = 12 ∧ (∀ F1, F1 = pUp F x0 0 0 → (K (F x0 3)).1 = 20 ∧ ((0 : Int) ≤ 0 ∧ 0 < ((K (F x0 3)).2 : Int)) ∧ (0 : Int) ≤ F x0 3 ∧ (∀ E2, E2 = pUp E (F x0 3) 0 0 → Q (some (0, E (F x0 3) 0)) (n, K, F1, E2)))) : PW l G 0 mX12_forget bg 0 [(0, (2, x0))] [] (n, K, F, E) Q := by
  refine s_aload_n (q := 1) 0 0 rfl rfl ?_
  refine s_iconst (q := 2) 1 rfl ?_
  obtain ⟨c1, h⟩ := h
  refine n_putf (q := 5) (jj := 0) 2 12 0 rfl kX12_174 c1 (Or.inl rfl) ?_
  refine PW.nameF (fun F1 eF1 => ?_)
  replace h := h F1 eF1
  refine s_aload_n (q := 6) 3 0 rfl rfl ?_
  refine n_getf (q := 9) (jj := 3) 4 12 3 rfl kX12_13 c1 ?_
  refine PW.top (b := F x0 3) (by exact (congrFun (congrFun eF1 _) _).trans (pUp_k (by decide))) ?_
  refine s_iconst (q := 10) 5 rfl ?_
  obtain ⟨c2, h⟩ := h
  obtain ⟨c3, h⟩ := h
  refine n_iald (q := 11) 6 rfl c2 c3 ?_
  refine s_istore_n (q := 12) (lv' := [(1, (0, E (F x0 3) 0)), (0, (2, x0))]) 7 rfl rfl ?_
  refine s_aload_n (q := 13) 8 1 rfl rfl ?_
  refine n_getf (q := 16) (jj := 3) 9 12 3 rfl kX12_13 c1 ?_
  refine PW.top (b := F x0 3) (by exact (congrFun (congrFun eF1 _) _).trans (pUp_k (by decide))) ?_
  refine s_iconst (q := 17) 10 rfl ?_
  refine s_iconst (q := 18) 11 rfl ?_
  obtain ⟨c4, h⟩ := h
  refine n_iast (q := 19) 12 rfl c4 c2 c3 ?_
  refine PW.nameE (fun E2 eE2 => ?_)
  replace h := h E2 eE2
  refine s_iload_n (q := 20) 13 0 rfl rfl ?_
  exact s_iret 14 rfl rfl h
theorem vX12_factOf_0 {l : Launch} {G : pG} {bg : Nat × Nat} {n : Nat} {K : Int → Nat × Nat} {F E : Int → Int → Int} {Q : Option pV → pM → Prop} (x0 x1 x2 x3 : Int) (h : ((¬ x3 = 0 → (K x0).1 = 12 ∧ (-2147483648 ≤ 27 * x1 ∧ 27 * x1 < 2147483648) ∧ (-2147483648 ≤ 42 + (27 * x1) ∧ 42 + (27 * x1) < 2147483648) ∧ (-2147483648 ≤ 3 * x2 ∧ 3 * x2 < 2147483648) ∧ (-2147483648 ≤ (42 + (27 * x1)) + (3 * x2) ∧ (42 + (27 * x1)) + (3 * x2) < 2147483648) ∧ (-2147483648 ≤ ((42 + (27 * x1)) + (3 * x2)) + x3 ∧ ((42 + (27 * x1)) + (3 * x2)) + x3 < 2147483648) ∧ (-2147483648 ≤ (((42 + (27 * x1)) + (3 * x2)) + x3) - 1 ∧ (((42 + (27 * x1)) + (3 * x2)) + x3) - 1 < 2147483648) ∧ (K (F x0 3)).1 = 20 ∧ ((0 : Int) ≤ (((42 + (27 * x1)) + (3 * x2)) + x3) - 1 ∧ (((42 + (27 * x1)) + (3 * x2)) + x3) - 1 < ((K (F x0 3)).2 : Int)) ∧ (∀ a1, a1 = E (F x0 3) ((((42 + (27 * x1)) + (3 * x2)) + x3) - 1) → Q (some (0, a1)) (n, K, F, E))) ∧ (x3 = 0 → Q (some (0, x1)) (n, K, F, E)))) : PW l G 1 mX12_factOf bg 0 [(0, (2, x0)), (1, (0, x1)), (2, (0, x2)), (3, (0, x3))] [] (n, K, F, E) Q := by
  refine s_iload_n (q := 1) 0 3 rfl rfl ?_
  refine s_if_ne (q := 4) (tgt := 8) 1 rfl rfl (fun hb => ?_) (fun hb => ?_)
  · skip
    have b1 := hb
    replace h := h.1 hb
    refine s_aload_n (q := 9) 4 0 rfl rfl ?_
    obtain ⟨c2, h⟩ := h
    refine n_getf (q := 12) (jj := 3) 5 12 3 rfl kX12_13 c2 ?_
    refine s_iload_n (q := 13) 6 1 rfl rfl ?_
    refine s_iload_n (q := 14) 7 2 rfl rfl ?_
    refine n_callS (N := mX12_tupleAt) (as := [(0, x1), (0, x2)]) (st := [(2, F x0 3)]) (q := 17) (d' := 0) 8 rfl uX12_tupleAt kX12_225 rfl ?_
    show PW l G 0 mX12_tupleAt (0, 0) 0 [(0, (0, x1)), (1, (0, x2))] [] (n, K, F, E) _
    refine s_bipush (q := 2) 0 rfl ?_
    refine s_bipush (q := 4) 1 rfl ?_
    refine s_iload_n (q := 5) 2 0 rfl rfl ?_
    obtain ⟨c3, h⟩ := h
    refine n_imul (q := 6) 3 rfl c3 ?_
    obtain ⟨c4, h⟩ := h
    refine n_iadd (q := 7) 4 rfl c4 ?_
    refine s_iconst (q := 8) 5 rfl ?_
    refine s_iload_n (q := 9) 6 1 rfl rfl ?_
    obtain ⟨c5, h⟩ := h
    refine n_imul (q := 10) 7 rfl c5 ?_
    obtain ⟨c6, h⟩ := h
    refine n_iadd (q := 11) 8 rfl c6 ?_
    refine s_iret 9 rfl rfl ?_
    show PW l G 1 mX12_factOf bg 17 [(0, (2, x0)), (1, (0, x1)), (2, (0, x2)), (3, (0, x3))] [(0, (42 + (27 * x1)) + (3 * x2)), (2, F x0 3)] (n, K, F, E) Q
    refine s_iload_n (q := 18) 9 3 rfl rfl ?_
    obtain ⟨c7, h⟩ := h
    refine n_iadd (q := 19) 10 rfl c7 ?_
    refine s_iconst (q := 20) 11 rfl ?_
    obtain ⟨c8, h⟩ := h
    refine n_isub (q := 21) 12 rfl c8 ?_
    obtain ⟨c9, h⟩ := h
    obtain ⟨c10, h⟩ := h
    refine n_iald (q := 22) 13 rfl c9 c10 ?_
    refine PW.name (fun a1 ea1 => ?_)
    replace h := h a1 ea1
    exact s_iret 14 rfl rfl h
  · have hb := Classical.not_not.mp hb
    have b1 := hb
    replace h := h.2 hb
    refine s_iload_n (q := 5) 2 1 rfl rfl ?_
    refine s_goto (tgt := 22) 3 rfl rfl ?_
    exact s_iret 14 rfl rfl h
theorem vX12_canBeIt_0 {l : Launch} {G : pG} {bg : Nat × Nat} {n : Nat} {K : Int → Nat × Nat} {F E : Int → Int → Int} {Q : Option pV → pM → Prop} (x0 x1 x2 : Int) (h : PW l G 2 mX12_canBeIt bg 5 [(0, (2, x0)), (1, (0, x1)), (2, (0, x2)), (3, (0, 1)), (4, (0, 0))] [] (n, K, F, E) Q) : PW l G 2 mX12_canBeIt bg 0 [(0, (2, x0)), (1, (0, x1)), (2, (0, x2))] [] (n, K, F, E) Q := by
  refine s_iconst (q := 1) 0 rfl ?_
  refine s_istore_n (q := 2) (lv' := [(3, (0, 1)), (0, (2, x0)), (1, (0, x1)), (2, (0, x2))]) 1 rfl rfl ?_
  refine s_iconst (q := 3) 2 rfl ?_
  refine s_istore (q := 5) (lv' := [(4, (0, 0)), (3, (0, 1)), (0, (2, x0)), (1, (0, x1)), (2, (0, x2))]) 3 rfl rfl ?_
  refine PW.pick [2, 3, 4, 1, 0] rfl ?_
  exact h
theorem vX12_canBeIt_5 {l : Launch} {G : pG} {bg : Nat × Nat} {n : Nat} {K : Int → Nat × Nat} {F E : Int → Int → Int} {Q : Option pV → pM → Prop} (x0 x1 x2 x3 x4 : Int) (h : (K x0).1 = 12 ∧ (K (F x0 3)).1 = 20 ∧ ((0 : Int) ≤ 0 ∧ 0 < ((K (F x0 3)).2 : Int)) ∧ ((E (F x0 3) 0 ≤ x4 → (x3 = 0 ∨ x3 = 1) ∧ Q (some (0, x3)) (n, K, F, E)) ∧ (¬ (E (F x0 3) 0 ≤ x4) → ((x3 = 0 → (-2147483648 ≤ x4 + 1 ∧ x4 + 1 < 2147483648) ∧ PW l G 2 mX12_canBeIt bg 5 [(0, (2, x0)), (1, (0, x1)), (2, (0, x2)), (3, (0, 0)), (4, (0, x4 + 1))] [] (n, K, F, E) Q) ∧ (¬ (x3 = 0) → (-2147483648 ≤ 2 * x4 ∧ 2 * x4 < 2147483648) ∧ (-2147483648 ≤ 123 + (2 * x4) ∧ 123 + (2 * x4) < 2147483648) ∧ ((0 : Int) ≤ 123 + (2 * x4) ∧ 123 + (2 * x4) < ((K (F x0 3)).2 : Int)) ∧ PC l G 1 mX12_factOf (0, 0) [(2, x0), (0, x1), (0, x2), (0, E (F x0 3) (123 + (2 * x4)))] (n, K, F, E) (fun r μ => PW l G 2 mX12_canBeIt bg 38 [(0, (2, x0)), (1, (0, x1)), (2, (0, x2)), (4, (0, x4))] (r.toList ++ []) μ Q)))))) : PW l G 2 mX12_canBeIt bg 5 [(0, (2, x0)), (1, (0, x1)), (2, (0, x2)), (3, (0, x3)), (4, (0, x4))] [] (n, K, F, E) Q := by
  refine s_iload (q := 7) 4 4 rfl rfl ?_
  refine s_aload_n (q := 8) 5 0 rfl rfl ?_
  obtain ⟨c1, h⟩ := h
  refine n_getf (q := 11) (jj := 3) 6 12 3 rfl kX12_13 c1 ?_
  refine s_iconst (q := 12) 7 rfl ?_
  obtain ⟨c2, h⟩ := h
  obtain ⟨c3, h⟩ := h
  refine n_iald (q := 13) 8 rfl c2 c3 ?_
  refine s_icmp_ge (q := 16) (tgt := 67) 9 rfl rfl (fun hb => ?_) (fun hb => ?_)
  · skip
    have b4 := hb
    replace h := h.1 hb
    refine s_iload_n (q := 68) 41 3 rfl rfl ?_
    obtain ⟨c5, h⟩ := h
    exact s_zret 42 rfl rfl c5 h
  · skip
    have b4 := hb
    replace h := h.2 hb
    refine s_iload_n (q := 17) 10 3 rfl rfl ?_
    refine s_if_eq (q := 20) (tgt := 59) 11 rfl rfl (fun hb => ?_) (fun hb => ?_)
    · skip
      have b6 := hb
      replace h := h.1 hb
      refine s_iconst (q := 60) 37 rfl ?_
      refine s_istore_n (q := 61) (lv' := [(3, (0, 0)), (0, (2, x0)), (1, (0, x1)), (2, (0, x2)), (4, (0, x4))]) 38 rfl rfl ?_
      obtain ⟨c7, h⟩ := h
      refine n_iinc (q := 64) (lv' := [(4, (0, x4 + 1)), (3, (0, 0)), (0, (2, x0)), (1, (0, x1)), (2, (0, x2))]) 39 4 rfl rfl c7 rfl ?_
      refine s_goto (tgt := 5) 40 rfl rfl ?_
      refine PW.pick [2, 3, 4, 1, 0] rfl ?_
      exact h
    · skip
      have b6 := hb
      replace h := h.2 hb
      refine s_aload_n (q := 21) 12 0 rfl rfl ?_
      refine s_iload_n (q := 22) 13 1 rfl rfl ?_
      refine s_iload_n (q := 23) 14 2 rfl rfl ?_
      refine s_aload_n (q := 24) 15 0 rfl rfl ?_
      refine n_getf (q := 27) (jj := 3) 16 12 3 rfl kX12_13 c1 ?_
      refine s_bipush (q := 29) 17 rfl ?_
      refine s_iconst (q := 30) 18 rfl ?_
      refine s_iload (q := 32) 19 4 rfl rfl ?_
      obtain ⟨c8, h⟩ := h
      refine n_imul (q := 33) 20 rfl c8 ?_
      obtain ⟨c9, h⟩ := h
      refine n_iadd (q := 34) 21 rfl c9 ?_
      obtain ⟨c10, h⟩ := h
      refine n_iald (q := 35) 22 rfl c2 c10 ?_
      refine PW.pick [0, 1, 2, 4] rfl ?_
      exact n_callV (N := mX12_factOf) (as := [(0, x1), (0, x2), (0, E (F x0 3) (123 + (2 * x4)))]) (st := []) (q := 38) (d' := 1) 23 rfl uX12_factOf kX12_560 rfl c1 h
theorem vX12_canBeIt_38 {l : Launch} {G : pG} {bg : Nat × Nat} {n : Nat} {K : Int → Nat × Nat} {F E : Int → Int → Int} {Q : Option pV → pM → Prop} (x0 x1 x2 x4 s0 : Int) (h : (K x0).1 = 12 ∧ (-2147483648 ≤ 2 * x4 ∧ 2 * x4 < 2147483648) ∧ (-2147483648 ≤ 123 + (2 * x4) ∧ 123 + (2 * x4) < 2147483648) ∧ (-2147483648 ≤ (123 + (2 * x4)) + 1 ∧ (123 + (2 * x4)) + 1 < 2147483648) ∧ (K (F x0 3)).1 = 20 ∧ ((0 : Int) ≤ (123 + (2 * x4)) + 1 ∧ (123 + (2 * x4)) + 1 < ((K (F x0 3)).2 : Int)) ∧ ((¬ s0 = E (F x0 3) ((123 + (2 * x4)) + 1) → (-2147483648 ≤ x4 + 1 ∧ x4 + 1 < 2147483648) ∧ PW l G 2 mX12_canBeIt bg 5 [(0, (2, x0)), (1, (0, x1)), (2, (0, x2)), (3, (0, 0)), (4, (0, x4 + 1))] [] (n, K, F, E) Q) ∧ (s0 = E (F x0 3) ((123 + (2 * x4)) + 1) → (-2147483648 ≤ x4 + 1 ∧ x4 + 1 < 2147483648) ∧ PW l G 2 mX12_canBeIt bg 5 [(0, (2, x0)), (1, (0, x1)), (2, (0, x2)), (3, (0, 1)), (4, (0, x4 + 1))] [] (n, K, F, E) Q))) : PW l G 2 mX12_canBeIt bg 38 [(0, (2, x0)), (1, (0, x1)), (2, (0, x2)), (4, (0, x4))] [(0, s0)] (n, K, F, E) Q := by
  refine s_aload_n (q := 39) 24 0 rfl rfl ?_
  obtain ⟨c1, h⟩ := h
  refine n_getf (q := 42) (jj := 3) 25 12 3 rfl kX12_13 c1 ?_
  refine s_bipush (q := 44) 26 rfl ?_
  refine s_iconst (q := 45) 27 rfl ?_
  refine s_iload (q := 47) 28 3 rfl rfl ?_
  obtain ⟨c2, h⟩ := h
  refine n_imul (q := 48) 29 rfl c2 ?_
  obtain ⟨c3, h⟩ := h
  refine n_iadd (q := 49) 30 rfl c3 ?_
  refine s_iconst (q := 50) 31 rfl ?_
  obtain ⟨c4, h⟩ := h
  refine n_iadd (q := 51) 32 rfl c4 ?_
  obtain ⟨c5, h⟩ := h
  obtain ⟨c6, h⟩ := h
  refine n_iald (q := 52) 33 rfl c5 c6 ?_
  refine s_icmp_ne (q := 55) (tgt := 59) 34 rfl rfl (fun hb => ?_) (fun hb => ?_)
  · skip
    have b7 := hb
    replace h := h.1 hb
    refine s_iconst (q := 60) 37 rfl ?_
    refine s_istore_n (q := 61) (lv' := [(3, (0, 0)), (0, (2, x0)), (1, (0, x1)), (2, (0, x2)), (4, (0, x4))]) 38 rfl rfl ?_
    obtain ⟨c8, h⟩ := h
    refine n_iinc (q := 64) (lv' := [(4, (0, x4 + 1)), (3, (0, 0)), (0, (2, x0)), (1, (0, x1)), (2, (0, x2))]) 39 4 rfl rfl c8 rfl ?_
    refine s_goto (tgt := 5) 40 rfl rfl ?_
    refine PW.pick [2, 3, 4, 1, 0] rfl ?_
    exact h
  · have hb := Classical.not_not.mp hb
    have b7 := hb
    replace h := h.2 hb
    refine s_iconst (q := 56) 35 rfl ?_
    refine s_goto (tgt := 60) 36 rfl rfl ?_
    refine s_istore_n (q := 61) (lv' := [(3, (0, 1)), (0, (2, x0)), (1, (0, x1)), (2, (0, x2)), (4, (0, x4))]) 38 rfl rfl ?_
    obtain ⟨c9, h⟩ := h
    refine n_iinc (q := 64) (lv' := [(4, (0, x4 + 1)), (3, (0, 1)), (0, (2, x0)), (1, (0, x1)), (2, (0, x2))]) 39 4 rfl rfl c9 rfl ?_
    refine s_goto (tgt := 5) 40 rfl rfl ?_
    refine PW.pick [2, 3, 4, 1, 0] rfl ?_
    exact h
theorem vX12_canBe_0 {l : Launch} {G : pG} {bg : Nat × Nat} {n : Nat} {K : Int → Nat × Nat} {F E : Int → Int → Int} {Q : Option pV → pM → Prop} (x0 x1 : Int) (h : (K x0).1 = 12 ∧ (∀ F1, F1 = pUp F x0 0 0 → PW l G 3 mX12_canBe bg 9 [(0, (2, x0)), (1, (0, x1)), (2, (0, 0)), (3, (0, 0))] [] (n, K, F1, E) Q)) : PW l G 3 mX12_canBe bg 0 [(0, (2, x0)), (1, (0, x1))] [] (n, K, F, E) Q := by
  refine s_aload_n (q := 1) 0 0 rfl rfl ?_
  refine s_iconst (q := 2) 1 rfl ?_
  obtain ⟨c1, h⟩ := h
  refine n_putf (q := 5) (jj := 0) 2 12 0 rfl kX12_174 c1 (Or.inl rfl) ?_
  refine PW.nameF (fun F1 eF1 => ?_)
  replace h := h F1 eF1
  refine s_iconst (q := 6) 3 rfl ?_
  refine s_istore_n (q := 7) (lv' := [(2, (0, 0)), (0, (2, x0)), (1, (0, x1))]) 4 rfl rfl ?_
  refine s_iconst (q := 8) 5 rfl ?_
  refine s_istore_n (q := 9) (lv' := [(3, (0, 0)), (2, (0, 0)), (0, (2, x0)), (1, (0, x1))]) 6 rfl rfl ?_
  refine PW.pick [2, 3, 1, 0] rfl ?_
  exact h
theorem vX12_canBe_9 {l : Launch} {G : pG} {bg : Nat × Nat} {n : Nat} {K : Int → Nat × Nat} {F E : Int → Int → Int} {Q : Option pV → pM → Prop} (x0 x1 x2 x3 : Int) (h : ((3 ≤ x3 → ((¬ x1 = (-1) → Q (some (0, (-1))) (n, K, F, E)) ∧ (x1 = (-1) → Q (some (0, x2)) (n, K, F, E)))) ∧ (¬ (3 ≤ x3) → PW l G 3 mX12_canBe bg 17 [(0, (2, x0)), (1, (0, x1)), (2, (0, x2)), (3, (0, x3)), (4, (0, 0))] [] (n, K, F, E) Q))) : PW l G 3 mX12_canBe bg 9 [(0, (2, x0)), (1, (0, x1)), (2, (0, x2)), (3, (0, x3))] [] (n, K, F, E) Q := by
  refine s_iload_n (q := 10) 7 3 rfl rfl ?_
  refine s_iconst (q := 11) 8 rfl ?_
  refine s_icmp_ge (q := 14) (tgt := 75) 9 rfl rfl (fun hb => ?_) (fun hb => ?_)
  · skip
    have b1 := hb
    replace h := h.1 hb
    refine s_iload_n (q := 76) 42 1 rfl rfl ?_
    refine s_iconst (q := 77) 43 rfl ?_
    refine s_icmp_ne (q := 80) (tgt := 84) 44 rfl rfl (fun hb => ?_) (fun hb => ?_)
    · skip
      have b2 := hb
      replace h := h.1 hb
      refine s_iconst (q := 85) 47 rfl ?_
      exact s_iret 48 rfl rfl h
    · have hb := Classical.not_not.mp hb
      have b2 := hb
      replace h := h.2 hb
      refine s_iload_n (q := 81) 45 2 rfl rfl ?_
      refine s_goto (tgt := 85) 46 rfl rfl ?_
      exact s_iret 48 rfl rfl h
  · skip
    have b1 := hb
    replace h := h.2 hb
    refine s_iconst (q := 15) 10 rfl ?_
    refine s_istore (q := 17) (lv' := [(4, (0, 0)), (0, (2, x0)), (1, (0, x1)), (2, (0, x2)), (3, (0, x3))]) 11 rfl rfl ?_
    refine PW.pick [1, 2, 3, 4, 0] rfl ?_
    exact h
theorem vX12_canBe_17 {l : Launch} {G : pG} {bg : Nat × Nat} {n : Nat} {K : Int → Nat × Nat} {F E : Int → Int → Int} {Q : Option pV → pM → Prop} (x0 x1 x2 x3 x4 : Int) (h : (K x0).1 = 12 ∧ (-2147483648 ≤ 15 + x3 ∧ 15 + x3 < 2147483648) ∧ (K (F x0 3)).1 = 20 ∧ ((0 : Int) ≤ 15 + x3 ∧ 15 + x3 < ((K (F x0 3)).2 : Int)) ∧ ((E (F x0 3) (15 + x3) ≤ x4 → (-2147483648 ≤ x3 + 1 ∧ x3 + 1 < 2147483648) ∧ PW l G 3 mX12_canBe bg 9 [(0, (2, x0)), (1, (0, x1)), (2, (0, x2)), (3, (0, x3 + 1))] [] (n, K, F, E) Q) ∧ (¬ (E (F x0 3) (15 + x3) ≤ x4) → PC l G 2 mX12_canBeIt (0, 0) [(2, x0), (0, x3), (0, x4)] (n, K, F, E) (fun r μ => PW l G 3 mX12_canBe bg 38 [(0, (2, x0)), (1, (0, x1)), (2, (0, x2)), (3, (0, x3)), (4, (0, x4))] (r.toList ++ []) μ Q)))) : PW l G 3 mX12_canBe bg 17 [(0, (2, x0)), (1, (0, x1)), (2, (0, x2)), (3, (0, x3)), (4, (0, x4))] [] (n, K, F, E) Q := by
  refine s_iload (q := 19) 12 4 rfl rfl ?_
  refine s_aload_n (q := 20) 13 0 rfl rfl ?_
  obtain ⟨c1, h⟩ := h
  refine n_getf (q := 23) (jj := 3) 14 12 3 rfl kX12_13 c1 ?_
  refine s_bipush (q := 25) 15 rfl ?_
  refine s_iload_n (q := 26) 16 3 rfl rfl ?_
  obtain ⟨c2, h⟩ := h
  refine n_iadd (q := 27) 17 rfl c2 ?_
  obtain ⟨c3, h⟩ := h
  obtain ⟨c4, h⟩ := h
  refine n_iald (q := 28) 18 rfl c3 c4 ?_
  refine s_icmp_ge (q := 31) (tgt := 69) 19 rfl rfl (fun hb => ?_) (fun hb => ?_)
  · skip
    have b5 := hb
    replace h := h.1 hb
    obtain ⟨c6, h⟩ := h
    refine n_iinc (q := 72) (lv' := [(3, (0, x3 + 1)), (0, (2, x0)), (1, (0, x1)), (2, (0, x2)), (4, (0, x4))]) 40 3 rfl rfl c6 rfl ?_
    refine s_goto (tgt := 9) 41 rfl rfl ?_
    refine PW.pick [1, 2, 3, 0] rfl ?_
    exact h
  · skip
    have b5 := hb
    replace h := h.2 hb
    refine s_aload_n (q := 32) 20 0 rfl rfl ?_
    refine s_iload_n (q := 33) 21 3 rfl rfl ?_
    refine s_iload (q := 35) 22 4 rfl rfl ?_
    refine PW.pick [0, 1, 2, 3, 4] rfl ?_
    exact n_callV (N := mX12_canBeIt) (as := [(0, x3), (0, x4)]) (st := []) (q := 38) (d' := 2) 23 rfl uX12_canBeIt kX12_563 rfl c1 h
theorem vX12_canBe_38 {l : Launch} {G : pG} {bg : Nat × Nat} {n : Nat} {K : Int → Nat × Nat} {F E : Int → Int → Int} {Q : Option pV → pM → Prop} (x0 x1 x2 x3 x4 s0 : Int) (h : ((s0 = 0 → (-2147483648 ≤ x4 + 1 ∧ x4 + 1 < 2147483648) ∧ PW l G 3 mX12_canBe bg 17 [(0, (2, x0)), (1, (0, x1)), (2, (0, x2)), (3, (0, x3)), (4, (0, x4 + 1))] [] (n, K, F, E) Q) ∧ (¬ (s0 = 0) → ((¬ x2 = x1 → (-2147483648 ≤ x2 + 1 ∧ x2 + 1 < 2147483648) ∧ (-2147483648 ≤ x4 + 1 ∧ x4 + 1 < 2147483648) ∧ PW l G 3 mX12_canBe bg 17 [(0, (2, x0)), (1, (0, x1)), (2, (0, x2 + 1)), (3, (0, x3)), (4, (0, x4 + 1))] [] (n, K, F, E) Q) ∧ (x2 = x1 → (K x0).1 = 12 ∧ (-2147483648 ≤ 27 * x3 ∧ 27 * x3 < 2147483648) ∧ (-2147483648 ≤ 42 + (27 * x3) ∧ 42 + (27 * x3) < 2147483648) ∧ (-2147483648 ≤ 3 * x4 ∧ 3 * x4 < 2147483648) ∧ (-2147483648 ≤ (42 + (27 * x3)) + (3 * x4) ∧ (42 + (27 * x3)) + (3 * x4) < 2147483648) ∧ (-2147483648 ≤ ((42 + (27 * x3)) + (3 * x4)) + 2 ∧ ((42 + (27 * x3)) + (3 * x4)) + 2 < 2147483648) ∧ (K (F x0 3)).1 = 20 ∧ ((0 : Int) ≤ ((42 + (27 * x3)) + (3 * x4)) + 2 ∧ ((42 + (27 * x3)) + (3 * x4)) + 2 < ((K (F x0 3)).2 : Int)) ∧ (∀ a1, a1 = E (F x0 3) (((42 + (27 * x3)) + (3 * x4)) + 2) → Q (some (0, a1)) (n, K, F, E))))))) : PW l G 3 mX12_canBe bg 38 [(0, (2, x0)), (1, (0, x1)), (2, (0, x2)), (3, (0, x3)), (4, (0, x4))] [(0, s0)] (n, K, F, E) Q := by
  refine s_if_eq (q := 41) (tgt := 63) 24 rfl rfl (fun hb => ?_) (fun hb => ?_)
  · skip
    have b1 := hb
    replace h := h.1 hb
    obtain ⟨c2, h⟩ := h
    refine n_iinc (q := 66) (lv' := [(4, (0, x4 + 1)), (0, (2, x0)), (1, (0, x1)), (2, (0, x2)), (3, (0, x3))]) 38 4 rfl rfl c2 rfl ?_
    refine s_goto (tgt := 17) 39 rfl rfl ?_
    refine PW.pick [1, 2, 3, 4, 0] rfl ?_
    exact h
  · skip
    have b1 := hb
    replace h := h.2 hb
    refine s_iload_n (q := 42) 25 2 rfl rfl ?_
    refine s_iload_n (q := 43) 26 1 rfl rfl ?_
    refine s_icmp_ne (q := 46) (tgt := 60) 27 rfl rfl (fun hb => ?_) (fun hb => ?_)
    · skip
      have b3 := hb
      replace h := h.1 hb
      obtain ⟨c4, h⟩ := h
      refine n_iinc (q := 63) (lv' := [(2, (0, x2 + 1)), (0, (2, x0)), (1, (0, x1)), (3, (0, x3)), (4, (0, x4))]) 37 2 rfl rfl c4 rfl ?_
      obtain ⟨c5, h⟩ := h
      refine n_iinc (q := 66) (lv' := [(4, (0, x4 + 1)), (2, (0, x2 + 1)), (0, (2, x0)), (1, (0, x1)), (3, (0, x3))]) 38 4 rfl rfl c5 rfl ?_
      refine s_goto (tgt := 17) 39 rfl rfl ?_
      refine PW.pick [2, 3, 1, 4, 0] rfl ?_
      exact h
    · have hb := Classical.not_not.mp hb
      have b3 := hb
      replace h := h.2 hb
      refine s_aload_n (q := 47) 28 0 rfl rfl ?_
      obtain ⟨c6, h⟩ := h
      refine n_getf (q := 50) (jj := 3) 29 12 3 rfl kX12_13 c6 ?_
      refine s_iload_n (q := 51) 30 3 rfl rfl ?_
      refine s_iload (q := 53) 31 4 rfl rfl ?_
      refine n_callS (N := mX12_tupleAt) (as := [(0, x3), (0, x4)]) (st := [(2, F x0 3)]) (q := 56) (d' := 0) 32 rfl uX12_tupleAt kX12_225 rfl ?_
      show PW l G 0 mX12_tupleAt (0, 0) 0 [(0, (0, x3)), (1, (0, x4))] [] (n, K, F, E) _
      refine s_bipush (q := 2) 0 rfl ?_
      refine s_bipush (q := 4) 1 rfl ?_
      refine s_iload_n (q := 5) 2 0 rfl rfl ?_
      obtain ⟨c7, h⟩ := h
      refine n_imul (q := 6) 3 rfl c7 ?_
      obtain ⟨c8, h⟩ := h
      refine n_iadd (q := 7) 4 rfl c8 ?_
      refine s_iconst (q := 8) 5 rfl ?_
      refine s_iload_n (q := 9) 6 1 rfl rfl ?_
      obtain ⟨c9, h⟩ := h
      refine n_imul (q := 10) 7 rfl c9 ?_
      obtain ⟨c10, h⟩ := h
      refine n_iadd (q := 11) 8 rfl c10 ?_
      refine s_iret 9 rfl rfl ?_
      show PW l G 3 mX12_canBe bg 56 [(0, (2, x0)), (1, (0, x1)), (2, (0, x2)), (3, (0, x3)), (4, (0, x4))] [(0, (42 + (27 * x3)) + (3 * x4)), (2, F x0 3)] (n, K, F, E) Q
      refine s_iconst (q := 57) 33 rfl ?_
      obtain ⟨c11, h⟩ := h
      refine n_iadd (q := 58) 34 rfl c11 ?_
      obtain ⟨c12, h⟩ := h
      obtain ⟨c13, h⟩ := h
      refine n_iald (q := 59) 35 rfl c12 c13 ?_
      refine PW.name (fun a1 ea1 => ?_)
      replace h := h a1 ea1
      exact s_iret 36 rfl rfl h
theorem vX12_mostAlike_0 {l : Launch} {G : pG} {bg : Nat × Nat} {n : Nat} {K : Int → Nat × Nat} {F E : Int → Int → Int} {Q : Option pV → pM → Prop} (x0 x1 : Int) (h : PW l G 3 mX12_mostAlike bg 2 [(0, (2, x0)), (1, (0, x1)), (2, (0, 0))] [] (n, K, F, E) Q) : PW l G 3 mX12_mostAlike bg 0 [(0, (2, x0)), (1, (0, x1))] [] (n, K, F, E) Q := by
  refine s_iconst (q := 1) 0 rfl ?_
  refine s_istore_n (q := 2) (lv' := [(2, (0, 0)), (0, (2, x0)), (1, (0, x1))]) 1 rfl rfl ?_
  refine PW.pick [1, 2, 0] rfl ?_
  exact h
theorem vX12_mostAlike_2 {l : Launch} {G : pG} {bg : Nat × Nat} {n : Nat} {K : Int → Nat × Nat} {F E : Int → Int → Int} {Q : Option pV → pM → Prop} (x0 x1 x2 : Int) (h : ((10 ≤ x2 → PW l G 3 mX12_mostAlike bg 25 [(0, (2, x0)), (1, (0, x1)), (2, (0, 0)), (3, (0, 0))] [] (n, K, F, E) Q) ∧ (¬ (10 ≤ x2) → (K x0).1 = 12 ∧ (0 : Int) ≤ F x0 64 ∧ (K (F x0 64)).1 = 20 ∧ ((0 : Int) ≤ x2 ∧ x2 < ((K (F x0 64)).2 : Int)) ∧ (∀ E1, E1 = pUp E (F x0 64) x2 0 → (-2147483648 ≤ x2 + 1 ∧ x2 + 1 < 2147483648) ∧ PW l G 3 mX12_mostAlike bg 2 [(0, (2, x0)), (1, (0, x1)), (2, (0, x2 + 1))] [] (n, K, F, E1) Q)))) : PW l G 3 mX12_mostAlike bg 2 [(0, (2, x0)), (1, (0, x1)), (2, (0, x2))] [] (n, K, F, E) Q := by
  refine s_iload_n (q := 3) 2 2 rfl rfl ?_
  refine s_bipush (q := 5) 3 rfl ?_
  refine s_icmp_ge (q := 8) (tgt := 21) 4 rfl rfl (fun hb => ?_) (fun hb => ?_)
  · skip
    have b1 := hb
    replace h := h.1 hb
    refine s_iconst (q := 22) 12 rfl ?_
    refine s_istore_n (q := 23) (lv' := [(2, (0, 0)), (0, (2, x0)), (1, (0, x1))]) 13 rfl rfl ?_
    refine s_iconst (q := 24) 14 rfl ?_
    refine s_istore_n (q := 25) (lv' := [(3, (0, 0)), (2, (0, 0)), (0, (2, x0)), (1, (0, x1))]) 15 rfl rfl ?_
    refine PW.pick [2, 3, 1, 0] rfl ?_
    exact h
  · skip
    have b1 := hb
    replace h := h.2 hb
    refine s_aload_n (q := 9) 5 0 rfl rfl ?_
    obtain ⟨c2, h⟩ := h
    refine n_getf (q := 12) (jj := 64) 6 12 64 rfl kX12_145 c2 ?_
    refine s_iload_n (q := 13) 7 2 rfl rfl ?_
    refine s_iconst (q := 14) 8 rfl ?_
    obtain ⟨c3, h⟩ := h
    obtain ⟨c4, h⟩ := h
    obtain ⟨c5, h⟩ := h
    refine n_iast (q := 15) 9 rfl c3 c4 c5 ?_
    refine PW.nameE (fun E1 eE1 => ?_)
    replace h := h E1 eE1
    obtain ⟨c6, h⟩ := h
    refine n_iinc (q := 18) (lv' := [(2, (0, x2 + 1)), (0, (2, x0)), (1, (0, x1))]) 10 2 rfl rfl c6 rfl ?_
    refine s_goto (tgt := 2) 11 rfl rfl ?_
    refine PW.pick [1, 2, 0] rfl ?_
    exact h
theorem vX12_mostAlike_25 {l : Launch} {G : pG} {bg : Nat × Nat} {n : Nat} {K : Int → Nat × Nat} {F E : Int → Int → Int} {Q : Option pV → pM → Prop} (x0 x1 x2 x3 : Int) (h : ((3 ≤ x3 → Q (some (0, x2)) (n, K, F, E)) ∧ (¬ (3 ≤ x3) → PW l G 3 mX12_mostAlike bg 33 [(0, (2, x0)), (1, (0, x1)), (2, (0, x2)), (3, (0, x3)), (4, (0, 0))] [] (n, K, F, E) Q))) : PW l G 3 mX12_mostAlike bg 25 [(0, (2, x0)), (1, (0, x1)), (2, (0, x2)), (3, (0, x3))] [] (n, K, F, E) Q := by
  refine s_iload_n (q := 26) 16 3 rfl rfl ?_
  refine s_iconst (q := 27) 17 rfl ?_
  refine s_icmp_ge (q := 30) (tgt := 113) 18 rfl rfl (fun hb => ?_) (fun hb => ?_)
  · skip
    have b1 := hb
    replace h := h.1 hb
    refine s_iload_n (q := 114) 65 2 rfl rfl ?_
    exact s_iret 66 rfl rfl h
  · skip
    have b1 := hb
    replace h := h.2 hb
    refine s_iconst (q := 31) 19 rfl ?_
    refine s_istore (q := 33) (lv' := [(4, (0, 0)), (0, (2, x0)), (1, (0, x1)), (2, (0, x2)), (3, (0, x3))]) 20 rfl rfl ?_
    refine PW.pick [1, 2, 3, 4, 0] rfl ?_
    exact h
theorem vX12_mostAlike_33 {l : Launch} {G : pG} {bg : Nat × Nat} {n : Nat} {K : Int → Nat × Nat} {F E : Int → Int → Int} {Q : Option pV → pM → Prop} (x0 x1 x2 x3 x4 : Int) (h : (K x0).1 = 12 ∧ (-2147483648 ≤ 15 + x3 ∧ 15 + x3 < 2147483648) ∧ (K (F x0 3)).1 = 20 ∧ ((0 : Int) ≤ 15 + x3 ∧ 15 + x3 < ((K (F x0 3)).2 : Int)) ∧ ((E (F x0 3) (15 + x3) ≤ x4 → (-2147483648 ≤ x3 + 1 ∧ x3 + 1 < 2147483648) ∧ PW l G 3 mX12_mostAlike bg 25 [(0, (2, x0)), (1, (0, x1)), (2, (0, x2)), (3, (0, x3 + 1))] [] (n, K, F, E) Q) ∧ (¬ (E (F x0 3) (15 + x3) ≤ x4) → PC l G 2 mX12_canBeIt (0, 0) [(2, x0), (0, x3), (0, x4)] (n, K, F, E) (fun r μ => PW l G 3 mX12_mostAlike bg 54 [(0, (2, x0)), (1, (0, x1)), (2, (0, x2)), (3, (0, x3)), (4, (0, x4))] (r.toList ++ []) μ Q)))) : PW l G 3 mX12_mostAlike bg 33 [(0, (2, x0)), (1, (0, x1)), (2, (0, x2)), (3, (0, x3)), (4, (0, x4))] [] (n, K, F, E) Q := by
  refine s_iload (q := 35) 21 4 rfl rfl ?_
  refine s_aload_n (q := 36) 22 0 rfl rfl ?_
  obtain ⟨c1, h⟩ := h
  refine n_getf (q := 39) (jj := 3) 23 12 3 rfl kX12_13 c1 ?_
  refine s_bipush (q := 41) 24 rfl ?_
  refine s_iload_n (q := 42) 25 3 rfl rfl ?_
  obtain ⟨c2, h⟩ := h
  refine n_iadd (q := 43) 26 rfl c2 ?_
  obtain ⟨c3, h⟩ := h
  obtain ⟨c4, h⟩ := h
  refine n_iald (q := 44) 27 rfl c3 c4 ?_
  refine s_icmp_ge (q := 47) (tgt := 107) 28 rfl rfl (fun hb => ?_) (fun hb => ?_)
  · skip
    have b5 := hb
    replace h := h.1 hb
    obtain ⟨c6, h⟩ := h
    refine n_iinc (q := 110) (lv' := [(3, (0, x3 + 1)), (0, (2, x0)), (1, (0, x1)), (2, (0, x2)), (4, (0, x4))]) 63 3 rfl rfl c6 rfl ?_
    refine s_goto (tgt := 25) 64 rfl rfl ?_
    refine PW.pick [1, 2, 3, 0] rfl ?_
    exact h
  · skip
    have b5 := hb
    replace h := h.2 hb
    refine s_aload_n (q := 48) 29 0 rfl rfl ?_
    refine s_iload_n (q := 49) 30 3 rfl rfl ?_
    refine s_iload (q := 51) 31 4 rfl rfl ?_
    refine PW.pick [0, 1, 2, 3, 4] rfl ?_
    exact n_callV (N := mX12_canBeIt) (as := [(0, x3), (0, x4)]) (st := []) (q := 54) (d' := 2) 32 rfl uX12_canBeIt kX12_563 rfl c1 h
theorem vX12_mostAlike_54 {l : Launch} {G : pG} {bg : Nat × Nat} {n : Nat} {K : Int → Nat × Nat} {F E : Int → Int → Int} {Q : Option pV → pM → Prop} (x0 x1 x2 x3 x4 s0 : Int) (h : ((s0 = 0 → (-2147483648 ≤ x4 + 1 ∧ x4 + 1 < 2147483648) ∧ PW l G 3 mX12_mostAlike bg 33 [(0, (2, x0)), (1, (0, x1)), (2, (0, x2)), (3, (0, x3)), (4, (0, x4 + 1))] [] (n, K, F, E) Q) ∧ (¬ (s0 = 0) → (K x0).1 = 12 ∧ PC l G 1 mX12_factOf (0, 0) [(2, x0), (0, x3), (0, x4), (0, x1)] (n, K, F, E) (fun r μ => PW l G 3 mX12_mostAlike bg 65 [(0, (2, x0)), (1, (0, x1)), (2, (0, x2)), (3, (0, x3)), (4, (0, x4))] (r.toList ++ []) μ Q)))) : PW l G 3 mX12_mostAlike bg 54 [(0, (2, x0)), (1, (0, x1)), (2, (0, x2)), (3, (0, x3)), (4, (0, x4))] [(0, s0)] (n, K, F, E) Q := by
  refine s_if_eq (q := 57) (tgt := 101) 33 rfl rfl (fun hb => ?_) (fun hb => ?_)
  · skip
    have b1 := hb
    replace h := h.1 hb
    obtain ⟨c2, h⟩ := h
    refine n_iinc (q := 104) (lv' := [(4, (0, x4 + 1)), (0, (2, x0)), (1, (0, x1)), (2, (0, x2)), (3, (0, x3))]) 61 4 rfl rfl c2 rfl ?_
    refine s_goto (tgt := 33) 62 rfl rfl ?_
    refine PW.pick [1, 2, 3, 4, 0] rfl ?_
    exact h
  · skip
    have b1 := hb
    replace h := h.2 hb
    refine s_aload_n (q := 58) 34 0 rfl rfl ?_
    refine s_iload_n (q := 59) 35 3 rfl rfl ?_
    refine s_iload (q := 61) 36 4 rfl rfl ?_
    refine s_iload_n (q := 62) 37 1 rfl rfl ?_
    obtain ⟨c3, h⟩ := h
    refine PW.pick [0, 1, 2, 3, 4] rfl ?_
    exact n_callV (N := mX12_factOf) (as := [(0, x3), (0, x4), (0, x1)]) (st := []) (q := 65) (d' := 1) 38 rfl uX12_factOf kX12_560 rfl c3 h
theorem vX12_mostAlike_65 {l : Launch} {G : pG} {bg : Nat × Nat} {n : Nat} {K : Int → Nat × Nat} {F E : Int → Int → Int} {Q : Option pV → pM → Prop} (x0 x1 x2 x3 x4 s0 : Int) (h : (K x0).1 = 12 ∧ (K (F x0 64)).1 = 20 ∧ ((0 : Int) ≤ s0 ∧ s0 < ((K (F x0 64)).2 : Int)) ∧ (-2147483648 ≤ (E (F x0 64) s0) + 1 ∧ (E (F x0 64) s0) + 1 < 2147483648) ∧ (0 : Int) ≤ F x0 64 ∧ (∀ E1, E1 = pUp E (F x0 64) s0 ((E (F x0 64) s0) + 1) → (((E (F x0 64) s0) + 1 ≤ x2 → (-2147483648 ≤ x4 + 1 ∧ x4 + 1 < 2147483648) ∧ PW l G 3 mX12_mostAlike bg 33 [(0, (2, x0)), (1, (0, x1)), (2, (0, x2)), (3, (0, x3)), (4, (0, x4 + 1))] [] (n, K, F, E1) Q) ∧ (¬ ((E (F x0 64) s0) + 1 ≤ x2) → (-2147483648 ≤ x4 + 1 ∧ x4 + 1 < 2147483648) ∧ PW l G 3 mX12_mostAlike bg 33 [(0, (2, x0)), (1, (0, x1)), (2, (0, (E (F x0 64) s0) + 1)), (3, (0, x3)), (4, (0, x4 + 1))] [] (n, K, F, E1) Q)))) : PW l G 3 mX12_mostAlike bg 65 [(0, (2, x0)), (1, (0, x1)), (2, (0, x2)), (3, (0, x3)), (4, (0, x4))] [(0, s0)] (n, K, F, E) Q := by
  refine s_istore (q := 67) (lv' := [(5, (0, s0)), (0, (2, x0)), (1, (0, x1)), (2, (0, x2)), (3, (0, x3)), (4, (0, x4))]) 39 rfl rfl ?_
  refine s_aload_n (q := 68) 40 1 rfl rfl ?_
  obtain ⟨c1, h⟩ := h
  refine n_getf (q := 71) (jj := 64) 41 12 64 rfl kX12_145 c1 ?_
  refine s_iload (q := 73) 42 0 rfl rfl ?_
  refine s_dup2 (q := 74) 43 rfl ?_
  obtain ⟨c2, h⟩ := h
  obtain ⟨c3, h⟩ := h
  refine n_iald (q := 75) 44 rfl c2 c3 ?_
  refine s_iconst (q := 76) 45 rfl ?_
  obtain ⟨c4, h⟩ := h
  refine n_iadd (q := 77) 46 rfl c4 ?_
  obtain ⟨c5, h⟩ := h
  refine n_iast (q := 78) 47 rfl c5 c2 c3 ?_
  refine PW.nameE (fun E1 eE1 => ?_)
  replace h := h E1 eE1
  refine s_aload_n (q := 79) 48 1 rfl rfl ?_
  refine n_getf (q := 82) (jj := 64) 49 12 64 rfl kX12_145 c1 ?_
  refine s_iload (q := 84) 50 0 rfl rfl ?_
  refine n_iald (q := 85) 51 rfl c2 c3 ?_
  refine PW.top (b := (E (F x0 64) s0) + 1) (by exact (congrFun (congrFun eE1 _) _).trans pUp_s) ?_
  refine s_iload_n (q := 86) 52 3 rfl rfl ?_
  refine s_icmp_le (q := 89) (tgt := 99) 53 rfl rfl (fun hb => ?_) (fun hb => ?_)
  · skip
    have b6 := hb
    replace h := h.1 hb
    refine s_iload_n (q := 100) 59 3 rfl rfl ?_
    refine s_istore_n (q := 101) (lv' := [(2, (0, x2)), (5, (0, s0)), (0, (2, x0)), (1, (0, x1)), (3, (0, x3)), (4, (0, x4))]) 60 rfl rfl ?_
    obtain ⟨c7, h⟩ := h
    refine n_iinc (q := 104) (lv' := [(4, (0, x4 + 1)), (2, (0, x2)), (5, (0, s0)), (0, (2, x0)), (1, (0, x1)), (3, (0, x3))]) 61 5 rfl rfl c7 rfl ?_
    refine s_goto (tgt := 33) 62 rfl rfl ?_
    refine PW.pick [3, 4, 1, 5, 0] rfl ?_
    exact h
  · skip
    have b6 := hb
    replace h := h.2 hb
    refine s_aload_n (q := 90) 54 1 rfl rfl ?_
    refine n_getf (q := 93) (jj := 64) 55 12 64 rfl kX12_145 c1 ?_
    refine s_iload (q := 95) 56 0 rfl rfl ?_
    refine n_iald (q := 96) 57 rfl c2 c3 ?_
    refine PW.top (b := (E (F x0 64) s0) + 1) (by exact (congrFun (congrFun eE1 _) _).trans pUp_s) ?_
    refine s_goto (tgt := 100) 58 rfl rfl ?_
    refine s_istore_n (q := 101) (lv' := [(2, (0, (E (F x0 64) s0) + 1)), (5, (0, s0)), (0, (2, x0)), (1, (0, x1)), (3, (0, x3)), (4, (0, x4))]) 60 rfl rfl ?_
    obtain ⟨c8, h⟩ := h
    refine n_iinc (q := 104) (lv' := [(4, (0, x4 + 1)), (2, (0, (E (F x0 64) s0) + 1)), (5, (0, s0)), (0, (2, x0)), (1, (0, x1)), (3, (0, x3))]) 61 5 rfl rfl c8 rfl ?_
    refine s_goto (tgt := 33) 62 rfl rfl ?_
    refine PW.pick [3, 4, 1, 5, 0] rfl ?_
    exact h
theorem vX12_ask_0 {l : Launch} {G : pG} {bg : Nat × Nat} {n : Nat} {K : Int → Nat × Nat} {F E : Int → Int → Int} {Q : Option pV → pM → Prop} (x0 x1 : Int) (h : (K x0).1 = 12 ∧ (∀ F1, F1 = pUp F x0 0 0 → ((¬ (0 ≤ x1 ∧ x1 ≤ 1) → Q (some (0, (-1))) (n, K, F1, E)) ∧ (0 ≤ x1 ∧ x1 ≤ 1 → PC l G 3 mX12_mostAlike (0, 0) [(2, x0), (0, 0)] (n, K, F1, E) (fun r μ => PW l G 4 mX12_ask bg 20 [(0, (2, x0)), (1, (0, x1))] (r.toList ++ []) μ Q))))) : PW l G 4 mX12_ask bg 0 [(0, (2, x0)), (1, (0, x1))] [] (n, K, F, E) Q := by
  refine s_aload_n (q := 1) 0 0 rfl rfl ?_
  refine s_iconst (q := 2) 1 rfl ?_
  obtain ⟨c1, h⟩ := h
  refine n_putf (q := 5) (jj := 0) 2 12 0 rfl kX12_174 c1 (Or.inl rfl) ?_
  refine PW.nameF (fun F1 eF1 => ?_)
  replace h := h F1 eF1
  refine s_iload_n (q := 6) 3 1 rfl rfl ?_
  refine s_i2l (q := 7) 4 rfl ?_
  refine s_lconst (q := 8) (x := 0) 5 rfl ?_
  refine s_lconst (q := 9) (x := 1) 6 rfl ?_
  refine n_callS (N := mX12_in) (as := [(1, x1), (1, 0), (1, 1)]) (st := []) (q := 12) (d' := 0) 7 rfl uX12_in kX12_197 rfl (pX12_in ?_)
  show PW l G 4 mX12_ask bg 12 [(0, (2, x0)), (1, (0, x1))] [(0, bI (0 ≤ x1 ∧ x1 ≤ 1))] (n, K, F1, E) Q
  refine s_if_eq (q := 15) (tgt := 23) 8 rfl rfl (fun hb => ?_) (fun hb => ?_)
  · have hb := bI_f hb
    have b2 := hb
    replace h := h.1 hb
    refine s_iconst (q := 24) 13 rfl ?_
    exact s_iret 14 rfl rfl h
  · have hb := bI_t hb
    have b2 := hb
    replace h := h.2 hb
    refine s_aload_n (q := 16) 9 0 rfl rfl ?_
    refine s_iconst (q := 17) 10 rfl ?_
    refine PW.pick [0, 1] rfl ?_
    exact n_callV (N := mX12_mostAlike) (as := [(0, 0)]) (st := []) (q := 20) (d' := 3) 11 rfl uX12_mostAlike kX12_566 rfl c1 h
theorem vX12_ask_20 {l : Launch} {G : pG} {bg : Nat × Nat} {n : Nat} {K : Int → Nat × Nat} {F E : Int → Int → Int} {Q : Option pV → pM → Prop} (x0 x1 s0 : Int) (h : ((¬ s0 = 0 → PW l G 4 mX12_ask bg 34 [(0, (2, x0)), (1, (0, x1)), (2, (0, 100000000)), (3, (0, (-1))), (4, (0, 0))] [] (n, K, F, E) Q) ∧ (s0 = 0 → Q (some (0, (-1))) (n, K, F, E)))) : PW l G 4 mX12_ask bg 20 [(0, (2, x0)), (1, (0, x1))] [(0, s0)] (n, K, F, E) Q := by
  refine s_if_ne (q := 23) (tgt := 25) 12 rfl rfl (fun hb => ?_) (fun hb => ?_)
  · skip
    have b1 := hb
    replace h := h.1 hb
    refine s_ldcw (q := 28) (x := 100000000) 15 rfl kX12_550 ?_
    refine s_istore_n (q := 29) (lv' := [(2, (0, 100000000)), (0, (2, x0)), (1, (0, x1))]) 16 rfl rfl ?_
    refine s_iconst (q := 30) 17 rfl ?_
    refine s_istore_n (q := 31) (lv' := [(3, (0, (-1))), (2, (0, 100000000)), (0, (2, x0)), (1, (0, x1))]) 18 rfl rfl ?_
    refine s_iconst (q := 32) 19 rfl ?_
    refine s_istore (q := 34) (lv' := [(4, (0, 0)), (3, (0, (-1))), (2, (0, 100000000)), (0, (2, x0)), (1, (0, x1))]) 20 rfl rfl ?_
    refine PW.pick [3, 4, 2, 1, 0] rfl ?_
    exact h
  · have hb := Classical.not_not.mp hb
    have b1 := hb
    replace h := h.2 hb
    refine s_iconst (q := 24) 13 rfl ?_
    exact s_iret 14 rfl rfl h
theorem vX12_ask_34 {l : Launch} {G : pG} {bg : Nat × Nat} {n : Nat} {K : Int → Nat × Nat} {F E : Int → Int → Int} {Q : Option pV → pM → Prop} (x0 x1 x2 x3 x4 : Int) (h : ((3 ≤ x4 → ((¬ x1 = 0 → Q (some (0, x2)) (n, K, F, E)) ∧ (x1 = 0 → Q (some (0, x3)) (n, K, F, E)))) ∧ (¬ (3 ≤ x4) → (K x0).1 = 12 ∧ PC l G 3 mX12_mostAlike (0, 0) [(2, x0), (0, x4)] (n, K, F, E) (fun r μ => PW l G 4 mX12_ask bg 46 [(0, (2, x0)), (1, (0, x1)), (2, (0, x2)), (3, (0, x3)), (4, (0, x4))] (r.toList ++ []) μ Q)))) : PW l G 4 mX12_ask bg 34 [(0, (2, x0)), (1, (0, x1)), (2, (0, x2)), (3, (0, x3)), (4, (0, x4))] [] (n, K, F, E) Q := by
  refine s_iload (q := 36) 21 4 rfl rfl ?_
  refine s_iconst (q := 37) 22 rfl ?_
  refine s_icmp_ge (q := 40) (tgt := 80) 23 rfl rfl (fun hb => ?_) (fun hb => ?_)
  · skip
    have b1 := hb
    replace h := h.1 hb
    refine s_iload_n (q := 81) 44 1 rfl rfl ?_
    refine s_if_ne (q := 84) (tgt := 88) 45 rfl rfl (fun hb => ?_) (fun hb => ?_)
    · skip
      have b2 := hb
      replace h := h.1 hb
      refine s_iload_n (q := 89) 48 2 rfl rfl ?_
      exact s_iret 49 rfl rfl h
    · have hb := Classical.not_not.mp hb
      have b2 := hb
      replace h := h.2 hb
      refine s_iload_n (q := 85) 46 3 rfl rfl ?_
      refine s_goto (tgt := 89) 47 rfl rfl ?_
      exact s_iret 49 rfl rfl h
  · skip
    have b1 := hb
    replace h := h.2 hb
    refine s_aload_n (q := 41) 24 0 rfl rfl ?_
    refine s_iload (q := 43) 25 4 rfl rfl ?_
    obtain ⟨c3, h⟩ := h
    refine PW.pick [0, 1, 2, 3, 4] rfl ?_
    exact n_callV (N := mX12_mostAlike) (as := [(0, x4)]) (st := []) (q := 46) (d' := 3) 26 rfl uX12_mostAlike kX12_566 rfl c3 h
theorem vX12_ask_46 {l : Launch} {G : pG} {bg : Nat × Nat} {n : Nat} {K : Int → Nat × Nat} {F E : Int → Int → Int} {Q : Option pV → pM → Prop} (x0 x1 x2 x3 x4 s0 : Int) (h : ((x2 ≤ s0 → ((x2 ≤ s0 → (-2147483648 ≤ x4 + 1 ∧ x4 + 1 < 2147483648) ∧ PW l G 4 mX12_ask bg 34 [(0, (2, x0)), (1, (0, x1)), (2, (0, x2)), (3, (0, x3)), (4, (0, x4 + 1))] [] (n, K, F, E) Q) ∧ (¬ (x2 ≤ s0) → (-2147483648 ≤ x4 + 1 ∧ x4 + 1 < 2147483648) ∧ PW l G 4 mX12_ask bg 34 [(0, (2, x0)), (1, (0, x1)), (2, (0, s0)), (3, (0, x3)), (4, (0, x4 + 1))] [] (n, K, F, E) Q))) ∧ (¬ (x2 ≤ s0) → ((x2 ≤ s0 → (-2147483648 ≤ x4 + 1 ∧ x4 + 1 < 2147483648) ∧ PW l G 4 mX12_ask bg 34 [(0, (2, x0)), (1, (0, x1)), (2, (0, x2)), (3, (0, x4)), (4, (0, x4 + 1))] [] (n, K, F, E) Q) ∧ (¬ (x2 ≤ s0) → (-2147483648 ≤ x4 + 1 ∧ x4 + 1 < 2147483648) ∧ PW l G 4 mX12_ask bg 34 [(0, (2, x0)), (1, (0, x1)), (2, (0, s0)), (3, (0, x4)), (4, (0, x4 + 1))] [] (n, K, F, E) Q))))) : PW l G 4 mX12_ask bg 46 [(0, (2, x0)), (1, (0, x1)), (2, (0, x2)), (3, (0, x3)), (4, (0, x4))] [(0, s0)] (n, K, F, E) Q := by
  refine s_istore (q := 48) (lv' := [(5, (0, s0)), (0, (2, x0)), (1, (0, x1)), (2, (0, x2)), (3, (0, x3)), (4, (0, x4))]) 27 rfl rfl ?_
  refine s_iload (q := 50) 28 0 rfl rfl ?_
  refine s_iload_n (q := 51) 29 3 rfl rfl ?_
  refine s_icmp_ge (q := 54) (tgt := 59) 30 rfl rfl (fun hb => ?_) (fun hb => ?_)
  · skip
    have b1 := hb
    replace h := h.1 hb
    refine s_iload_n (q := 60) 33 4 rfl rfl ?_
    refine s_istore_n (q := 61) (lv' := [(3, (0, x3)), (5, (0, s0)), (0, (2, x0)), (1, (0, x1)), (2, (0, x2)), (4, (0, x4))]) 34 rfl rfl ?_
    refine s_iload (q := 63) 35 1 rfl rfl ?_
    refine s_iload_n (q := 64) 36 4 rfl rfl ?_
    refine s_icmp_ge (q := 67) (tgt := 72) 37 rfl rfl (fun hb => ?_) (fun hb => ?_)
    · skip
      have b2 := hb
      replace h := h.1 hb
      refine s_iload_n (q := 73) 40 4 rfl rfl ?_
      refine s_istore_n (q := 74) (lv' := [(2, (0, x2)), (3, (0, x3)), (5, (0, s0)), (0, (2, x0)), (1, (0, x1)), (4, (0, x4))]) 41 rfl rfl ?_
      obtain ⟨c3, h⟩ := h
      refine n_iinc (q := 77) (lv' := [(4, (0, x4 + 1)), (2, (0, x2)), (3, (0, x3)), (5, (0, s0)), (0, (2, x0)), (1, (0, x1))]) 42 5 rfl rfl c3 rfl ?_
      refine s_goto (tgt := 34) 43 rfl rfl ?_
      refine PW.pick [4, 5, 1, 2, 0] rfl ?_
      exact h
    · skip
      have b2 := hb
      replace h := h.2 hb
      refine s_iload (q := 69) 38 1 rfl rfl ?_
      refine s_goto (tgt := 73) 39 rfl rfl ?_
      refine s_istore_n (q := 74) (lv' := [(2, (0, s0)), (3, (0, x3)), (5, (0, s0)), (0, (2, x0)), (1, (0, x1)), (4, (0, x4))]) 41 rfl rfl ?_
      obtain ⟨c4, h⟩ := h
      refine n_iinc (q := 77) (lv' := [(4, (0, x4 + 1)), (2, (0, s0)), (3, (0, x3)), (5, (0, s0)), (0, (2, x0)), (1, (0, x1))]) 42 5 rfl rfl c4 rfl ?_
      refine s_goto (tgt := 34) 43 rfl rfl ?_
      refine PW.pick [4, 5, 1, 2, 0] rfl ?_
      exact h
  · skip
    have b1 := hb
    replace h := h.2 hb
    refine s_iload (q := 56) 31 5 rfl rfl ?_
    refine s_goto (tgt := 60) 32 rfl rfl ?_
    refine s_istore_n (q := 61) (lv' := [(3, (0, x4)), (5, (0, s0)), (0, (2, x0)), (1, (0, x1)), (2, (0, x2)), (4, (0, x4))]) 34 rfl rfl ?_
    refine s_iload (q := 63) 35 1 rfl rfl ?_
    refine s_iload_n (q := 64) 36 4 rfl rfl ?_
    refine s_icmp_ge (q := 67) (tgt := 72) 37 rfl rfl (fun hb => ?_) (fun hb => ?_)
    · skip
      have b5 := hb
      replace h := h.1 hb
      refine s_iload_n (q := 73) 40 4 rfl rfl ?_
      refine s_istore_n (q := 74) (lv' := [(2, (0, x2)), (3, (0, x4)), (5, (0, s0)), (0, (2, x0)), (1, (0, x1)), (4, (0, x4))]) 41 rfl rfl ?_
      obtain ⟨c6, h⟩ := h
      refine n_iinc (q := 77) (lv' := [(4, (0, x4 + 1)), (2, (0, x2)), (3, (0, x4)), (5, (0, s0)), (0, (2, x0)), (1, (0, x1))]) 42 5 rfl rfl c6 rfl ?_
      refine s_goto (tgt := 34) 43 rfl rfl ?_
      refine PW.pick [4, 5, 1, 2, 0] rfl ?_
      exact h
    · skip
      have b5 := hb
      replace h := h.2 hb
      refine s_iload (q := 69) 38 1 rfl rfl ?_
      refine s_goto (tgt := 73) 39 rfl rfl ?_
      refine s_istore_n (q := 74) (lv' := [(2, (0, s0)), (3, (0, x4)), (5, (0, s0)), (0, (2, x0)), (1, (0, x1)), (4, (0, x4))]) 41 rfl rfl ?_
      obtain ⟨c7, h⟩ := h
      refine n_iinc (q := 77) (lv' := [(4, (0, x4 + 1)), (2, (0, s0)), (3, (0, x4)), (5, (0, s0)), (0, (2, x0)), (1, (0, x1))]) 42 5 rfl rfl c7 rfl ?_
      refine s_goto (tgt := 34) 43 rfl rfl ?_
      refine PW.pick [4, 5, 1, 2, 0] rfl ?_
      exact h
theorem vX12_few_0 {l : Launch} {G : pG} {bg : Nat × Nat} {n : Nat} {K : Int → Nat × Nat} {F E : Int → Int → Int} {Q : Option pV → pM → Prop} (x0 x1 x2 : Int) (h : (K x0).1 = 12 ∧ (∀ F1, F1 = pUp F x0 0 0 → ((¬ (1 ≤ x1 ∧ x1 ≤ 20) → Q (some (1, (-1))) (n, K, F1, E)) ∧ (1 ≤ x1 ∧ x1 ≤ 20 → ((0 ≤ x2 ∧ x2 ≤ 99 → PW l G 1 mX12_few bg 35 [(0, (2, x0)), (1, (0, x1)), (2, (0, x2)), (3, (0, 0))] [] (n, K, F1, E) Q) ∧ (¬ (0 ≤ x2 ∧ x2 ≤ 99) → Q (some (1, (-1))) (n, K, F1, E))))))) : PW l G 1 mX12_few bg 0 [(0, (2, x0)), (1, (0, x1)), (2, (0, x2))] [] (n, K, F, E) Q := by
  refine s_aload_n (q := 1) 0 0 rfl rfl ?_
  refine s_iconst (q := 2) 1 rfl ?_
  obtain ⟨c1, h⟩ := h
  refine n_putf (q := 5) (jj := 0) 2 12 0 rfl kX12_174 c1 (Or.inl rfl) ?_
  refine PW.nameF (fun F1 eF1 => ?_)
  replace h := h F1 eF1
  refine s_iload_n (q := 6) 3 1 rfl rfl ?_
  refine s_i2l (q := 7) 4 rfl ?_
  refine s_lconst (q := 8) (x := 1) 5 rfl ?_
  refine s_ldc2 (q := 11) (x := 20) 6 rfl kX12_302 ?_
  refine n_callS (N := mX12_in) (as := [(1, x1), (1, 1), (1, 20)]) (st := []) (q := 14) (d' := 0) 7 rfl uX12_in kX12_197 rfl (pX12_in ?_)
  show PW l G 1 mX12_few bg 14 [(0, (2, x0)), (1, (0, x1)), (2, (0, x2))] [(0, bI (1 ≤ x1 ∧ x1 ≤ 20))] (n, K, F1, E) Q
  refine s_if_eq (q := 17) (tgt := 29) 8 rfl rfl (fun hb => ?_) (fun hb => ?_)
  · have hb := bI_f hb
    have b2 := hb
    replace h := h.1 hb
    refine s_ldc2 (q := 32) (x := (-1)) 15 rfl kX12_279 ?_
    exact s_lret 16 rfl rfl h
  · have hb := bI_t hb
    have b2 := hb
    replace h := h.2 hb
    refine s_iload_n (q := 18) 9 2 rfl rfl ?_
    refine s_i2l (q := 19) 10 rfl ?_
    refine s_lconst (q := 20) (x := 0) 11 rfl ?_
    refine s_ldc2 (q := 23) (x := 99) 12 rfl kX12_569 ?_
    refine n_callS (N := mX12_in) (as := [(1, x2), (1, 0), (1, 99)]) (st := []) (q := 26) (d' := 0) 13 rfl uX12_in kX12_197 rfl (pX12_in ?_)
    show PW l G 1 mX12_few bg 26 [(0, (2, x0)), (1, (0, x1)), (2, (0, x2))] [(0, bI (0 ≤ x2 ∧ x2 ≤ 99))] (n, K, F1, E) Q
    refine s_if_ne (q := 29) (tgt := 33) 14 rfl rfl (fun hb => ?_) (fun hb => ?_)
    · have hb := bI_t hb
      have b3 := hb
      replace h := h.1 hb
      refine s_iconst (q := 34) 17 rfl ?_
      refine s_istore_n (q := 35) (lv' := [(3, (0, 0)), (0, (2, x0)), (1, (0, x1)), (2, (0, x2))]) 18 rfl rfl ?_
      refine PW.pick [1, 2, 3, 0] rfl ?_
      exact h
    · have hb := bI_f2 hb
      have b3 := hb
      replace h := h.2 hb
      refine s_ldc2 (q := 32) (x := (-1)) 15 rfl kX12_279 ?_
      exact s_lret 16 rfl rfl h
theorem vX12_few_35 {l : Launch} {G : pG} {bg : Nat × Nat} {n : Nat} {K : Int → Nat × Nat} {F E : Int → Int → Int} {Q : Option pV → pM → Prop} (x0 x1 x2 x3 : Int) (h : ((21 ≤ x3 → (K x0).1 = 12 ∧ (K (F x0 3)).1 = 20 ∧ ((0 : Int) ≤ 4 ∧ 4 < ((K (F x0 3)).2 : Int)) ∧ PW l G 1 mX12_few bg 74 [(0, (2, x0)), (1, (0, x1)), (2, (0, x2)), (3, (0, E (F x0 3) 4)), (4, (0, 0))] [] (n, K, F, E) Q) ∧ (¬ (21 ≤ x3) → (K x0).1 = 12 ∧ ((¬ x3 = 0 → (0 : Int) ≤ F x0 65 ∧ (K (F x0 65)).1 = 21 ∧ ((0 : Int) ≤ x3 ∧ x3 < ((K (F x0 65)).2 : Int)) ∧ (∀ E1, E1 = pUp E (F x0 65) x3 0 → (-2147483648 ≤ x3 + 1 ∧ x3 + 1 < 2147483648) ∧ PW l G 1 mX12_few bg 35 [(0, (2, x0)), (1, (0, x1)), (2, (0, x2)), (3, (0, x3 + 1))] [] (n, K, F, E1) Q)) ∧ (x3 = 0 → (0 : Int) ≤ F x0 65 ∧ (K (F x0 65)).1 = 21 ∧ ((0 : Int) ≤ x3 ∧ x3 < ((K (F x0 65)).2 : Int)) ∧ (∀ E2, E2 = pUp E (F x0 65) x3 1000000000000 → (-2147483648 ≤ x3 + 1 ∧ x3 + 1 < 2147483648) ∧ PW l G 1 mX12_few bg 35 [(0, (2, x0)), (1, (0, x1)), (2, (0, x2)), (3, (0, x3 + 1))] [] (n, K, F, E2) Q)))))) : PW l G 1 mX12_few bg 35 [(0, (2, x0)), (1, (0, x1)), (2, (0, x2)), (3, (0, x3))] [] (n, K, F, E) Q := by
  refine s_iload_n (q := 36) 19 3 rfl rfl ?_
  refine s_bipush (q := 38) 20 rfl ?_
  refine s_icmp_ge (q := 41) (tgt := 64) 21 rfl rfl (fun hb => ?_) (fun hb => ?_)
  · skip
    have b1 := hb
    replace h := h.1 hb
    refine s_aload_n (q := 65) 33 0 rfl rfl ?_
    obtain ⟨c2, h⟩ := h
    refine n_getf (q := 68) (jj := 3) 34 12 3 rfl kX12_13 c2 ?_
    refine s_iconst (q := 69) 35 rfl ?_
    obtain ⟨c3, h⟩ := h
    obtain ⟨c4, h⟩ := h
    refine n_iald (q := 70) 36 rfl c3 c4 ?_
    refine s_istore_n (q := 71) (lv' := [(3, (0, E (F x0 3) 4)), (0, (2, x0)), (1, (0, x1)), (2, (0, x2))]) 37 rfl rfl ?_
    refine s_iconst (q := 72) 38 rfl ?_
    refine s_istore (q := 74) (lv' := [(4, (0, 0)), (3, (0, E (F x0 3) 4)), (0, (2, x0)), (1, (0, x1)), (2, (0, x2))]) 39 rfl rfl ?_
    refine PW.pick [2, 3, 4, 1, 0] rfl ?_
    exact h
  · skip
    have b1 := hb
    replace h := h.2 hb
    refine s_aload_n (q := 42) 22 0 rfl rfl ?_
    obtain ⟨c5, h⟩ := h
    refine n_getf (q := 45) (jj := 65) 23 12 65 rfl kX12_148 c5 ?_
    refine s_iload_n (q := 46) 24 3 rfl rfl ?_
    refine s_iload_n (q := 47) 25 3 rfl rfl ?_
    refine s_if_ne (q := 50) (tgt := 56) 26 rfl rfl (fun hb => ?_) (fun hb => ?_)
    · skip
      have b6 := hb
      replace h := h.1 hb
      refine s_lconst (q := 57) (x := 0) 29 rfl ?_
      obtain ⟨c7, h⟩ := h
      obtain ⟨c8, h⟩ := h
      obtain ⟨c9, h⟩ := h
      refine n_last (q := 58) 30 rfl c7 c8 c9 ?_
      refine PW.nameE (fun E1 eE1 => ?_)
      replace h := h E1 eE1
      obtain ⟨c10, h⟩ := h
      refine n_iinc (q := 61) (lv' := [(3, (0, x3 + 1)), (0, (2, x0)), (1, (0, x1)), (2, (0, x2))]) 31 3 rfl rfl c10 rfl ?_
      refine s_goto (tgt := 35) 32 rfl rfl ?_
      refine PW.pick [1, 2, 3, 0] rfl ?_
      exact h
    · have hb := Classical.not_not.mp hb
      have b6 := hb
      replace h := h.2 hb
      refine s_ldc2 (q := 53) (x := 1000000000000) 27 rfl kX12_571 ?_
      refine s_goto (tgt := 57) 28 rfl rfl ?_
      obtain ⟨c11, h⟩ := h
      obtain ⟨c12, h⟩ := h
      obtain ⟨c13, h⟩ := h
      refine n_last (q := 58) 30 rfl c11 c12 c13 ?_
      refine PW.nameE (fun E2 eE2 => ?_)
      replace h := h E2 eE2
      obtain ⟨c14, h⟩ := h
      refine n_iinc (q := 61) (lv' := [(3, (0, x3 + 1)), (0, (2, x0)), (1, (0, x1)), (2, (0, x2))]) 31 3 rfl rfl c14 rfl ?_
      refine s_goto (tgt := 35) 32 rfl rfl ?_
      refine PW.pick [1, 2, 3, 0] rfl ?_
      exact h
theorem vX12_few_74 {l : Launch} {G : pG} {bg : Nat × Nat} {n : Nat} {K : Int → Nat × Nat} {F E : Int → Int → Int} {Q : Option pV → pM → Prop} (x0 x1 x2 x3 x4 : Int) (h : ((x2 ≤ x4 → PW l G 1 mX12_few bg 157 [(0, (2, x0)), (1, (0, x1)), (4, (1, 0)), (6, (0, 0))] [] (n, K, F, E) Q) ∧ (¬ (x2 ≤ x4) → (-2147483648 ≤ x1 - 1 ∧ x1 - 1 < 2147483648) ∧ PW l G 1 mX12_few bg 85 [(0, (2, x0)), (1, (0, x1)), (2, (0, x2)), (3, (0, x3)), (4, (0, x4)), (5, (0, x1 - 1))] [] (n, K, F, E) Q))) : PW l G 1 mX12_few bg 74 [(0, (2, x0)), (1, (0, x1)), (2, (0, x2)), (3, (0, x3)), (4, (0, x4))] [] (n, K, F, E) Q := by
  refine s_iload (q := 76) 40 4 rfl rfl ?_
  refine s_iload_n (q := 77) 41 2 rfl rfl ?_
  refine s_icmp_ge (q := 80) (tgt := 151) 42 rfl rfl (fun hb => ?_) (fun hb => ?_)
  · skip
    have b1 := hb
    replace h := h.1 hb
    refine s_lconst (q := 152) (x := 0) 85 rfl ?_
    refine s_lstore (q := 154) (lv' := [(4, (1, 0)), (0, (2, x0)), (1, (0, x1)), (2, (0, x2)), (3, (0, x3))]) 86 rfl rfl ?_
    refine s_iconst (q := 155) 87 rfl ?_
    refine s_istore (q := 157) (lv' := [(6, (0, 0)), (4, (1, 0)), (0, (2, x0)), (1, (0, x1)), (2, (0, x2)), (3, (0, x3))]) 88 rfl rfl ?_
    refine PW.pick [2, 3, 1, 0] rfl ?_
    exact h
  · skip
    have b1 := hb
    replace h := h.2 hb
    refine s_iload_n (q := 81) 43 1 rfl rfl ?_
    refine s_iconst (q := 82) 44 rfl ?_
    obtain ⟨c2, h⟩ := h
    refine n_isub (q := 83) 45 rfl c2 ?_
    refine s_istore (q := 85) (lv' := [(5, (0, x1 - 1)), (0, (2, x0)), (1, (0, x1)), (2, (0, x2)), (3, (0, x3)), (4, (0, x4))]) 46 rfl rfl ?_
    refine PW.pick [1, 2, 3, 4, 5, 0] rfl ?_
    exact h
theorem vX12_few_85 {l : Launch} {G : pG} {bg : Nat × Nat} {n : Nat} {K : Int → Nat × Nat} {F E : Int → Int → Int} {Q : Option pV → pM → Prop} (x0 x1 x2 x3 x4 x5 : Int) (h : ((x5 < 0 → (-2147483648 ≤ x4 + 1 ∧ x4 + 1 < 2147483648) ∧ PW l G 1 mX12_few bg 74 [(0, (2, x0)), (1, (0, x1)), (2, (0, x2)), (3, (0, x3)), (4, (0, x4 + 1))] [] (n, K, F, E) Q) ∧ (¬ (x5 < 0) → (K x0).1 = 12 ∧ (0 : Int) ≤ F x0 65 ∧ (K (F x0 65)).1 = 21 ∧ ((0 : Int) ≤ x5 ∧ x5 < ((K (F x0 65)).2 : Int)) ∧ (-2147483648 ≤ 10 - x3 ∧ 10 - x3 < 2147483648) ∧ (∀ a1, a1 = w64 ((w64 ((E (F x0 65) x5) * (10 - x3))).tdiv 10) → (∀ E2, E2 = pUp E (F x0 65) x5 a1 → (-2147483648 ≤ x5 + 1 ∧ x5 + 1 < 2147483648) ∧ ((0 : Int) ≤ x5 + 1 ∧ x5 + 1 < ((K (F x0 65)).2 : Int)) ∧ (∀ a3, a3 = w64 ((w64 ((E (F x0 65) x5) * x3)).tdiv 10) → (-9223372036854775808 ≤ (E (F x0 65) (x5 + 1)) + a3 ∧ (E (F x0 65) (x5 + 1)) + a3 < 9223372036854775808) ∧ (∀ E4, E4 = pUp E2 (F x0 65) (x5 + 1) ((E (F x0 65) (x5 + 1)) + a3) → (-2147483648 ≤ x5 + (-1) ∧ x5 + (-1) < 2147483648) ∧ PW l G 1 mX12_few bg 85 [(0, (2, x0)), (1, (0, x1)), (2, (0, x2)), (3, (0, x3)), (4, (0, x4)), (5, (0, x5 + (-1)))] [] (n, K, F, E4) Q))))))) : PW l G 1 mX12_few bg 85 [(0, (2, x0)), (1, (0, x1)), (2, (0, x2)), (3, (0, x3)), (4, (0, x4)), (5, (0, x5))] [] (n, K, F, E) Q := by
  refine s_iload (q := 87) 47 5 rfl rfl ?_
  refine s_if_lt (q := 90) (tgt := 145) 48 rfl rfl (fun hb => ?_) (fun hb => ?_)
  · skip
    have b1 := hb
    replace h := h.1 hb
    obtain ⟨c2, h⟩ := h
    refine n_iinc (q := 148) (lv' := [(4, (0, x4 + 1)), (0, (2, x0)), (1, (0, x1)), (2, (0, x2)), (3, (0, x3)), (5, (0, x5))]) 83 4 rfl rfl c2 rfl ?_
    refine s_goto (tgt := 74) 84 rfl rfl ?_
    refine PW.pick [1, 2, 3, 4, 0] rfl ?_
    exact h
  · skip
    have b1 := hb
    replace h := h.2 hb
    refine s_aload_n (q := 91) 49 0 rfl rfl ?_
    obtain ⟨c3, h⟩ := h
    refine n_getf (q := 94) (jj := 65) 50 12 65 rfl kX12_148 c3 ?_
    refine s_iload (q := 96) 51 5 rfl rfl ?_
    obtain ⟨c4, h⟩ := h
    obtain ⟨c5, h⟩ := h
    obtain ⟨c6, h⟩ := h
    refine n_lald (q := 97) 52 rfl c4 c5 c6 ?_
    refine s_lstore (q := 99) (lv' := [(6, (1, E (F x0 65) x5)), (0, (2, x0)), (1, (0, x1)), (2, (0, x2)), (3, (0, x3)), (4, (0, x4)), (5, (0, x5))]) 53 rfl rfl ?_
    refine s_aload_n (q := 100) 54 1 rfl rfl ?_
    refine n_getf (q := 103) (jj := 65) 55 12 65 rfl kX12_148 c3 ?_
    refine s_iload (q := 105) 56 6 rfl rfl ?_
    refine s_lload (q := 107) 57 0 rfl rfl ?_
    refine s_bipush (q := 109) 58 rfl ?_
    refine s_iload_n (q := 110) 59 4 rfl rfl ?_
    obtain ⟨c7, h⟩ := h
    refine n_isub (q := 111) 60 rfl c7 ?_
    refine s_i2l (q := 112) 61 rfl ?_
    refine s_lmul (q := 113) 62 rfl ?_
    refine s_ldc2 (q := 116) (x := 10) 63 rfl kX12_231 ?_
    refine s_ldiv (q := 117) 64 rfl (by decide) ?_
    refine PW.name (fun a1 ea1 => ?_)
    replace h := h a1 ea1
    refine n_last (q := 118) 65 rfl c4 c5 c6 ?_
    refine PW.nameE (fun E2 eE2 => ?_)
    replace h := h E2 eE2
    refine s_aload_n (q := 119) 66 1 rfl rfl ?_
    refine n_getf (q := 122) (jj := 65) 67 12 65 rfl kX12_148 c3 ?_
    refine s_iload (q := 124) 68 6 rfl rfl ?_
    refine s_iconst (q := 125) 69 rfl ?_
    obtain ⟨c8, h⟩ := h
    refine n_iadd (q := 126) 70 rfl c8 ?_
    refine s_dup2 (q := 127) 71 rfl ?_
    obtain ⟨c9, h⟩ := h
    refine n_lald (q := 128) 72 rfl c4 c5 c9 ?_
    refine PW.top (b := E (F x0 65) (x5 + 1)) (by exact (congrFun (congrFun eE2 _) _).trans (pUp_k (by omega))) ?_
    refine s_lload (q := 130) 73 0 rfl rfl ?_
    refine s_iload_n (q := 131) 74 4 rfl rfl ?_
    refine s_i2l (q := 132) 75 rfl ?_
    refine s_lmul (q := 133) 76 rfl ?_
    refine s_ldc2 (q := 136) (x := 10) 77 rfl kX12_231 ?_
    refine s_ldiv (q := 137) 78 rfl (by decide) ?_
    refine PW.name (fun a3 ea3 => ?_)
    replace h := h a3 ea3
    obtain ⟨c10, h⟩ := h
    refine n_ladd (q := 138) 79 rfl c10 ?_
    refine n_last (q := 139) 80 rfl c4 c5 c9 ?_
    refine PW.nameE (fun E4 eE4 => ?_)
    replace h := h E4 eE4
    obtain ⟨c11, h⟩ := h
    refine n_iinc (q := 142) (lv' := [(5, (0, x5 + (-1))), (6, (1, E (F x0 65) x5)), (0, (2, x0)), (1, (0, x1)), (2, (0, x2)), (3, (0, x3)), (4, (0, x4))]) 81 6 rfl rfl c11 rfl ?_
    refine s_goto (tgt := 85) 82 rfl rfl ?_
    refine PW.pick [2, 3, 4, 5, 6, 0] rfl ?_
    exact h
theorem vX12_few_157 {l : Launch} {G : pG} {bg : Nat × Nat} {n : Nat} {K : Int → Nat × Nat} {F E : Int → Int → Int} {Q : Option pV → pM → Prop} (x0 x1 x4 x6 : Int) (h : ((x1 ≤ x6 → Q (some (1, x4)) (n, K, F, E)) ∧ (¬ (x1 ≤ x6) → (K x0).1 = 12 ∧ (0 : Int) ≤ F x0 65 ∧ (K (F x0 65)).1 = 21 ∧ ((0 : Int) ≤ x6 ∧ x6 < ((K (F x0 65)).2 : Int)) ∧ (-9223372036854775808 ≤ x4 + (E (F x0 65) x6) ∧ x4 + (E (F x0 65) x6) < 9223372036854775808) ∧ (-2147483648 ≤ x6 + 1 ∧ x6 + 1 < 2147483648) ∧ PW l G 1 mX12_few bg 157 [(0, (2, x0)), (1, (0, x1)), (4, (1, x4 + (E (F x0 65) x6))), (6, (0, x6 + 1))] [] (n, K, F, E) Q))) : PW l G 1 mX12_few bg 157 [(0, (2, x0)), (1, (0, x1)), (4, (1, x4)), (6, (0, x6))] [] (n, K, F, E) Q := by
  refine s_iload (q := 159) 89 3 rfl rfl ?_
  refine s_iload_n (q := 160) 90 1 rfl rfl ?_
  refine s_icmp_ge (q := 163) (tgt := 181) 91 rfl rfl (fun hb => ?_) (fun hb => ?_)
  · skip
    have b1 := hb
    replace h := h.1 hb
    refine s_lload (q := 183) 101 2 rfl rfl ?_
    exact s_lret 102 rfl rfl h
  · skip
    have b1 := hb
    replace h := h.2 hb
    refine s_lload (q := 165) 92 2 rfl rfl ?_
    refine s_aload_n (q := 166) 93 0 rfl rfl ?_
    obtain ⟨c2, h⟩ := h
    refine n_getf (q := 169) (jj := 65) 94 12 65 rfl kX12_148 c2 ?_
    refine s_iload (q := 171) 95 3 rfl rfl ?_
    obtain ⟨c3, h⟩ := h
    obtain ⟨c4, h⟩ := h
    obtain ⟨c5, h⟩ := h
    refine n_lald (q := 172) 96 rfl c3 c4 c5 ?_
    obtain ⟨c6, h⟩ := h
    refine n_ladd (q := 173) 97 rfl c6 ?_
    refine s_lstore (q := 175) (lv' := [(4, (1, x4 + (E (F x0 65) x6))), (0, (2, x0)), (1, (0, x1)), (6, (0, x6))]) 98 rfl rfl ?_
    obtain ⟨c7, h⟩ := h
    refine n_iinc (q := 178) (lv' := [(6, (0, x6 + 1)), (4, (1, x4 + (E (F x0 65) x6))), (0, (2, x0)), (1, (0, x1))]) 99 3 rfl rfl c7 rfl ?_
    refine s_goto (tgt := 157) 100 rfl rfl ?_
    refine PW.pick [2, 3, 1, 0] rfl ?_
    exact h
theorem vX12_readSum_0 {l : Launch} {G : pG} {bg : Nat × Nat} {n : Nat} {K : Int → Nat × Nat} {F E : Int → Int → Int} {Q : Option pV → pM → Prop} (x0 x1 : Int) (h : (K x0).1 = 12 ∧ (0 : Int) ≤ F x0 67 ∧ (K (F x0 67)).1 = 20 ∧ ((0 : Int) ≤ x1 ∧ x1 < ((K (F x0 67)).2 : Int)) ∧ (∀ E1, E1 = pUp E (F x0 67) x1 (F x0 23) → ((¬ (F x0 19) = 0 → (-2147483648 ≤ x1 + 1 ∧ x1 + 1 < 2147483648) ∧ ((0 : Int) ≤ x1 + 1 ∧ x1 + 1 < ((K (F x0 67)).2 : Int)) ∧ (∀ E2, E2 = pUp E1 (F x0 67) (x1 + 1) (F x0 23) → Q none (n, K, F, E2))) ∧ ((F x0 19) = 0 → PC l G 6 mX12_readExpression (0, 0) [(2, x0), (0, 0)] (n, K, F, E1) (fun r μ => PW l G 7 mX12_readSum bg 22 [(0, (2, x0)), (1, (0, x1))] (r.toList ++ []) μ Q))))) : PW l G 7 mX12_readSum bg 0 [(0, (2, x0)), (1, (0, x1))] [] (n, K, F, E) Q := by
  refine s_aload_n (q := 1) 0 0 rfl rfl ?_
  obtain ⟨c1, h⟩ := h
  refine n_getf (q := 4) (jj := 67) 1 12 67 rfl kX12_162 c1 ?_
  refine s_iload_n (q := 5) 2 1 rfl rfl ?_
  refine s_aload_n (q := 6) 3 0 rfl rfl ?_
  refine n_getf (q := 9) (jj := 23) 4 12 23 rfl kX12_289 c1 ?_
  obtain ⟨c2, h⟩ := h
  obtain ⟨c3, h⟩ := h
  obtain ⟨c4, h⟩ := h
  refine n_iast (q := 10) 5 rfl c2 c3 c4 ?_
  refine PW.nameE (fun E1 eE1 => ?_)
  replace h := h E1 eE1
  refine s_aload_n (q := 11) 6 0 rfl rfl ?_
  refine n_getf (q := 14) (jj := 19) 7 12 19 rfl kX12_252 c1 ?_
  refine s_if_ne (q := 17) (tgt := 22) 8 rfl rfl (fun hb => ?_) (fun hb => ?_)
  · skip
    have b5 := hb
    replace h := h.1 hb
    refine s_aload_n (q := 23) 12 0 rfl rfl ?_
    refine n_getf (q := 26) (jj := 67) 13 12 67 rfl kX12_162 c1 ?_
    refine s_iload_n (q := 27) 14 1 rfl rfl ?_
    refine s_iconst (q := 28) 15 rfl ?_
    obtain ⟨c6, h⟩ := h
    refine n_iadd (q := 29) 16 rfl c6 ?_
    refine s_aload_n (q := 30) 17 0 rfl rfl ?_
    refine n_getf (q := 33) (jj := 23) 18 12 23 rfl kX12_289 c1 ?_
    obtain ⟨c7, h⟩ := h
    refine n_iast (q := 34) 19 rfl c2 c3 c7 ?_
    refine PW.nameE (fun E2 eE2 => ?_)
    replace h := h E2 eE2
    exact s_vret 20 rfl rfl h
  · have hb := Classical.not_not.mp hb
    have b5 := hb
    replace h := h.2 hb
    refine s_aload_n (q := 18) 9 0 rfl rfl ?_
    refine s_iconst (q := 19) 10 rfl ?_
    refine PW.pick [0, 1] rfl ?_
    exact n_callV (N := mX12_readExpression) (as := [(0, 0)]) (st := []) (q := 22) (d' := 6) 11 rfl uX12_readExpression kX12_386 rfl c1 h
theorem vX12_readSum_22 {l : Launch} {G : pG} {bg : Nat × Nat} {n : Nat} {K : Int → Nat × Nat} {F E : Int → Int → Int} {Q : Option pV → pM → Prop} (x0 x1 : Int) (h : (K x0).1 = 12 ∧ (-2147483648 ≤ x1 + 1 ∧ x1 + 1 < 2147483648) ∧ (0 : Int) ≤ F x0 67 ∧ (K (F x0 67)).1 = 20 ∧ ((0 : Int) ≤ x1 + 1 ∧ x1 + 1 < ((K (F x0 67)).2 : Int)) ∧ (∀ E1, E1 = pUp E (F x0 67) (x1 + 1) (F x0 23) → Q none (n, K, F, E1))) : PW l G 7 mX12_readSum bg 22 [(0, (2, x0)), (1, (0, x1))] [] (n, K, F, E) Q := by
  refine s_aload_n (q := 23) 12 0 rfl rfl ?_
  obtain ⟨c1, h⟩ := h
  refine n_getf (q := 26) (jj := 67) 13 12 67 rfl kX12_162 c1 ?_
  refine s_iload_n (q := 27) 14 1 rfl rfl ?_
  refine s_iconst (q := 28) 15 rfl ?_
  obtain ⟨c2, h⟩ := h
  refine n_iadd (q := 29) 16 rfl c2 ?_
  refine s_aload_n (q := 30) 17 0 rfl rfl ?_
  refine n_getf (q := 33) (jj := 23) 18 12 23 rfl kX12_289 c1 ?_
  obtain ⟨c3, h⟩ := h
  obtain ⟨c4, h⟩ := h
  obtain ⟨c5, h⟩ := h
  refine n_iast (q := 34) 19 rfl c3 c4 c5 ?_
  refine PW.nameE (fun E1 eE1 => ?_)
  replace h := h E1 eE1
  exact s_vret 20 rfl rfl h
