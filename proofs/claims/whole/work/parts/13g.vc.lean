theorem vX12_readBehind_0 {l : Launch} {G : pG} {bg : Nat × Nat} {n : Nat} {K : Int → Nat × Nat} {F E : Int → Int → Int} {Q : Option pV → pM → Prop} (x0 x1 x3 : Int) (h : (K x0).1 = 12 ∧ ((¬ (F x0 19) = 0 → PC l G 7 mX12_readSum (0, 0) [(2, x0), (0, x3)] (n, K, F, E) (fun r μ => PW l G 8 mX12_readBehind bg 21 [] (r.toList ++ []) μ Q)) ∧ ((F x0 19) = 0 → PC l G 2 mX12_must (0, 0) [(2, x0), (0, bI (F x0 16 = 1 ∧ F x0 17 = x1))] (n, K, F, E) (fun r μ => PW l G 8 mX12_readBehind bg 16 [(0, (2, x0)), (3, (0, x3))] (r.toList ++ []) μ Q)))) : PW l G 8 mX12_readBehind bg 0 [(0, (2, x0)), (1, (1, x1)), (3, (0, x3))] [] (n, K, F, E) Q := by
  refine s_aload_n (q := 1) 0 0 rfl rfl ?_
  obtain ⟨c1, h⟩ := h
  refine n_getf (q := 4) (jj := 19) 1 12 19 rfl kX12_252 c1 ?_
  refine s_if_ne (q := 7) (tgt := 16) 2 rfl rfl (fun hb => ?_) (fun hb => ?_)
  · skip
    have b2 := hb
    replace h := h.1 hb
    refine s_aload_n (q := 17) 8 0 rfl rfl ?_
    refine s_iload_n (q := 18) 9 2 rfl rfl ?_
    refine PW.pick [] rfl ?_
    exact n_callV (N := mX12_readSum) (as := [(0, x3)]) (st := []) (q := 21) (d' := 7) 10 rfl uX12_readSum kX12_573 rfl c1 h
  · have hb := Classical.not_not.mp hb
    have b2 := hb
    replace h := h.2 hb
    refine s_aload_n (q := 8) 3 0 rfl rfl ?_
    refine s_aload_n (q := 9) 4 0 rfl rfl ?_
    refine s_lload_n (q := 10) 5 1 rfl rfl ?_
    refine n_callV (N := mX12_isWord) (as := [(1, x1)]) (st := [(2, x0)]) (q := 13) (d' := 0) 6 rfl uX12_isWord kX12_310 rfl c1 (pX12_isWord c1 ?_)
    show PW l G 8 mX12_readBehind bg 13 [(0, (2, x0)), (1, (1, x1)), (3, (0, x3))] [(0, bI (F x0 16 = 1 ∧ F x0 17 = x1)), (2, x0)] (n, K, F, E) Q
    refine PW.pick [0, 2] rfl ?_
    exact n_callV (N := mX12_must) (as := [(0, bI (F x0 16 = 1 ∧ F x0 17 = x1))]) (st := []) (q := 16) (d' := 2) 7 rfl uX12_must kX12_285 rfl c1 h
theorem vX12_readBehind_16 {l : Launch} {G : pG} {bg : Nat × Nat} {n : Nat} {K : Int → Nat × Nat} {F E : Int → Int → Int} {Q : Option pV → pM → Prop} (x0 x3 : Int) (h : (K x0).1 = 12 ∧ PC l G 7 mX12_readSum (0, 0) [(2, x0), (0, x3)] (n, K, F, E) (fun r μ => PW l G 8 mX12_readBehind bg 21 [] (r.toList ++ []) μ Q)) : PW l G 8 mX12_readBehind bg 16 [(0, (2, x0)), (3, (0, x3))] [] (n, K, F, E) Q := by
  refine s_aload_n (q := 17) 8 0 rfl rfl ?_
  refine s_iload_n (q := 18) 9 1 rfl rfl ?_
  obtain ⟨c1, h⟩ := h
  refine PW.pick [] rfl ?_
  exact n_callV (N := mX12_readSum) (as := [(0, x3)]) (st := []) (q := 21) (d' := 7) 10 rfl uX12_readSum kX12_573 rfl c1 h
theorem vX12_readBehind_21 {l : Launch} {G : pG} {bg : Nat × Nat} {n : Nat} {K : Int → Nat × Nat} {F E : Int → Int → Int} {Q : Option pV → pM → Prop} (h : Q none (n, K, F, E)) : PW l G 8 mX12_readBehind bg 21 [] [] (n, K, F, E) Q := by
  exact s_vret 11 rfl rfl h
theorem vX12_readOrder_0 {l : Launch} {G : pG} {bg : Nat × Nat} {n : Nat} {K : Int → Nat × Nat} {F E : Int → Int → Int} {Q : Option pV → pM → Prop} (x0 : Int) (h : PW l G 9 mX12_readOrder bg 4 [(0, (2, x0)), (1, (0, (-1))), (2, (0, 0))] [] (n, K, F, E) Q) : PW l G 9 mX12_readOrder bg 0 [(0, (2, x0))] [] (n, K, F, E) Q := by
  refine s_iconst (q := 1) 0 rfl ?_
  refine s_istore_n (q := 2) (lv' := [(1, (0, (-1))), (0, (2, x0))]) 1 rfl rfl ?_
  refine s_iconst (q := 3) 2 rfl ?_
  refine s_istore_n (q := 4) (lv' := [(2, (0, 0)), (1, (0, (-1))), (0, (2, x0))]) 3 rfl rfl ?_
  refine PW.pick [2, 1, 0] rfl ?_
  exact h
theorem vX12_readOrder_4 {l : Launch} {G : pG} {bg : Nat × Nat} {n : Nat} {K : Int → Nat × Nat} {F E : Int → Int → Int} {Q : Option pV → pM → Prop} (x0 x1 x2 : Int) (h : ((4 ≤ x2 → ((x1 = (-1) → (K x0).1 = 12 ∧ PC l G 2 mX12_must (0, 0) [(2, x0), (0, 0)] (n, K, F, E) (fun r μ => PW l G 9 mX12_readOrder bg 57 [(0, (2, x0)), (1, (0, x1))] (r.toList ++ []) μ Q)) ∧ (¬ (x1 = (-1)) → (K x0).1 = 12 ∧ ((12 ≤ F x0 21 → PC l G 2 mX12_must (0, 0) [(2, x0), (0, 0)] (n, K, F, E) (fun r μ => PW l G 9 mX12_readOrder bg 57 [(0, (2, x0)), (1, (0, x1))] (r.toList ++ []) μ Q)) ∧ (¬ (12 ≤ F x0 21) → PC l G 2 mX12_must (0, 0) [(2, x0), (0, 1)] (n, K, F, E) (fun r μ => PW l G 9 mX12_readOrder bg 57 [(0, (2, x0)), (1, (0, x1))] (r.toList ++ []) μ Q)))))) ∧ (¬ (4 ≤ x2) → (K x0).1 = 12 ∧ (0 : Int) ≤ F x0 66 ∧ (K (F x0 66)).1 = 21 ∧ ((0 : Int) ≤ x2 ∧ x2 < ((K (F x0 66)).2 : Int)) ∧ ((¬ (F x0 16 = 1 ∧ F x0 17 = E (F x0 66) x2) → (-2147483648 ≤ x2 + 1 ∧ x2 + 1 < 2147483648) ∧ PW l G 9 mX12_readOrder bg 4 [(0, (2, x0)), (1, (0, x1)), (2, (0, x2 + 1))] [] (n, K, F, E) Q) ∧ (F x0 16 = 1 ∧ F x0 17 = E (F x0 66) x2 → (-2147483648 ≤ x2 + 1 ∧ x2 + 1 < 2147483648) ∧ PW l G 9 mX12_readOrder bg 4 [(0, (2, x0)), (1, (0, x2)), (2, (0, x2 + 1))] [] (n, K, F, E) Q))))) : PW l G 9 mX12_readOrder bg 4 [(0, (2, x0)), (1, (0, x1)), (2, (0, x2))] [] (n, K, F, E) Q := by
  refine s_iload_n (q := 5) 4 2 rfl rfl ?_
  refine s_iconst (q := 6) 5 rfl ?_
  refine s_icmp_ge (q := 9) (tgt := 34) 6 rfl rfl (fun hb => ?_) (fun hb => ?_)
  · skip
    have b1 := hb
    replace h := h.1 hb
    refine s_aload_n (q := 35) 20 0 rfl rfl ?_
    refine s_iload_n (q := 36) 21 1 rfl rfl ?_
    refine s_iconst (q := 37) 22 rfl ?_
    refine s_icmp_eq (q := 40) (tgt := 53) 23 rfl rfl (fun hb => ?_) (fun hb => ?_)
    · skip
      have b2 := hb
      replace h := h.1 hb
      refine s_iconst (q := 54) 30 rfl ?_
      obtain ⟨c3, h⟩ := h
      refine PW.pick [0, 1] rfl ?_
      exact n_callV (N := mX12_must) (as := [(0, 0)]) (st := []) (q := 57) (d' := 2) 31 rfl uX12_must kX12_285 rfl c3 h
    · skip
      have b2 := hb
      replace h := h.2 hb
      refine s_aload_n (q := 41) 24 0 rfl rfl ?_
      obtain ⟨c4, h⟩ := h
      refine n_getf (q := 44) (jj := 21) 25 12 21 rfl kX12_383 c4 ?_
      refine s_bipush (q := 46) 26 rfl ?_
      refine s_icmp_ge (q := 49) (tgt := 53) 27 rfl rfl (fun hb => ?_) (fun hb => ?_)
      · skip
        have b5 := hb
        replace h := h.1 hb
        refine s_iconst (q := 54) 30 rfl ?_
        refine PW.pick [0, 1] rfl ?_
        exact n_callV (N := mX12_must) (as := [(0, 0)]) (st := []) (q := 57) (d' := 2) 31 rfl uX12_must kX12_285 rfl c4 h
      · skip
        have b5 := hb
        replace h := h.2 hb
        refine s_iconst (q := 50) 28 rfl ?_
        refine s_goto (tgt := 54) 29 rfl rfl ?_
        refine PW.pick [0, 1] rfl ?_
        exact n_callV (N := mX12_must) (as := [(0, 1)]) (st := []) (q := 57) (d' := 2) 31 rfl uX12_must kX12_285 rfl c4 h
  · skip
    have b1 := hb
    replace h := h.2 hb
    refine s_aload_n (q := 10) 7 0 rfl rfl ?_
    refine s_aload_n (q := 11) 8 0 rfl rfl ?_
    obtain ⟨c6, h⟩ := h
    refine n_getf (q := 14) (jj := 66) 9 12 66 rfl kX12_159 c6 ?_
    refine s_iload_n (q := 15) 10 2 rfl rfl ?_
    obtain ⟨c7, h⟩ := h
    obtain ⟨c8, h⟩ := h
    obtain ⟨c9, h⟩ := h
    refine n_lald (q := 16) 11 rfl c7 c8 c9 ?_
    refine n_callV (N := mX12_isWord) (as := [(1, E (F x0 66) x2)]) (st := []) (q := 19) (d' := 0) 12 rfl uX12_isWord kX12_310 rfl c6 (pX12_isWord c6 ?_)
    show PW l G 9 mX12_readOrder bg 19 [(0, (2, x0)), (1, (0, x1)), (2, (0, x2))] [(0, bI (F x0 16 = 1 ∧ F x0 17 = E (F x0 66) x2))] (n, K, F, E) Q
    refine s_if_eq (q := 22) (tgt := 26) 13 rfl rfl (fun hb => ?_) (fun hb => ?_)
    · have hb := bI_f hb
      have b10 := hb
      replace h := h.1 hb
      refine s_iload_n (q := 27) 16 1 rfl rfl ?_
      refine s_istore_n (q := 28) (lv' := [(1, (0, x1)), (0, (2, x0)), (2, (0, x2))]) 17 rfl rfl ?_
      obtain ⟨c11, h⟩ := h
      refine n_iinc (q := 31) (lv' := [(2, (0, x2 + 1)), (1, (0, x1)), (0, (2, x0))]) 18 2 rfl rfl c11 rfl ?_
      refine s_goto (tgt := 4) 19 rfl rfl ?_
      refine PW.pick [2, 1, 0] rfl ?_
      exact h
    · have hb := bI_t hb
      have b10 := hb
      replace h := h.2 hb
      refine s_iload_n (q := 23) 14 2 rfl rfl ?_
      refine s_goto (tgt := 27) 15 rfl rfl ?_
      refine s_istore_n (q := 28) (lv' := [(1, (0, x2)), (0, (2, x0)), (2, (0, x2))]) 17 rfl rfl ?_
      obtain ⟨c12, h⟩ := h
      refine n_iinc (q := 31) (lv' := [(2, (0, x2 + 1)), (1, (0, x2)), (0, (2, x0))]) 18 2 rfl rfl c12 rfl ?_
      refine s_goto (tgt := 4) 19 rfl rfl ?_
      refine PW.pick [2, 1, 0] rfl ?_
      exact h
theorem vX12_readOrder_57 {l : Launch} {G : pG} {bg : Nat × Nat} {n : Nat} {K : Int → Nat × Nat} {F E : Int → Int → Int} {Q : Option pV → pM → Prop} (x0 x1 : Int) (h : (K x0).1 = 12 ∧ ((F x0 19 = 0 → (-2147483648 ≤ 10 * (F x0 21) ∧ 10 * (F x0 21) < 2147483648) ∧ (-2147483648 ≤ (F x0 21) + 1 ∧ (F x0 21) + 1 < 2147483648) ∧ (∀ F1, F1 = pUp F x0 21 ((F x0 21) + 1) → PW l G 9 mX12_readOrder bg 85 [(0, (2, x0)), (1, (0, x1)), (2, (0, 10 * (F x0 21))), (3, (0, 0))] [] (n, K, F1, E) Q)) ∧ (¬ (F x0 19 = 0) → Q none (n, K, F, E)))) : PW l G 9 mX12_readOrder bg 57 [(0, (2, x0)), (1, (0, x1))] [] (n, K, F, E) Q := by
  refine s_aload_n (q := 58) 32 0 rfl rfl ?_
  obtain ⟨c1, h⟩ := h
  refine n_getf (q := 61) (jj := 19) 33 12 19 rfl kX12_252 c1 ?_
  refine s_if_eq (q := 64) (tgt := 65) 34 rfl rfl (fun hb => ?_) (fun hb => ?_)
  · skip
    have b2 := hb
    replace h := h.1 hb
    refine s_bipush (q := 67) 36 rfl ?_
    refine s_aload_n (q := 68) 37 0 rfl rfl ?_
    refine n_getf (q := 71) (jj := 21) 38 12 21 rfl kX12_383 c1 ?_
    obtain ⟨c3, h⟩ := h
    refine n_imul (q := 72) 39 rfl c3 ?_
    refine s_istore_n (q := 73) (lv' := [(2, (0, 10 * (F x0 21))), (0, (2, x0)), (1, (0, x1))]) 40 rfl rfl ?_
    refine s_aload_n (q := 74) 41 1 rfl rfl ?_
    refine s_dup (q := 75) 42 rfl ?_
    refine n_getf (q := 78) (jj := 21) 43 12 21 rfl kX12_383 c1 ?_
    refine s_iconst (q := 79) 44 rfl ?_
    obtain ⟨c4, h⟩ := h
    refine n_iadd (q := 80) 45 rfl c4 ?_
    refine n_putf (q := 83) (jj := 21) 46 12 21 rfl kX12_383 c1 (Or.inl rfl) ?_
    refine PW.nameF (fun F1 eF1 => ?_)
    replace h := h F1 eF1
    refine s_iconst (q := 84) 47 rfl ?_
    refine s_istore_n (q := 85) (lv' := [(3, (0, 0)), (2, (0, 10 * (F x0 21))), (0, (2, x0)), (1, (0, x1))]) 48 rfl rfl ?_
    refine PW.pick [2, 3, 1, 0] rfl ?_
    exact h
  · skip
    have b2 := hb
    replace h := h.2 hb
    exact s_vret 35 rfl rfl h
theorem vX12_readOrder_85 {l : Launch} {G : pG} {bg : Nat × Nat} {n : Nat} {K : Int → Nat × Nat} {F E : Int → Int → Int} {Q : Option pV → pM → Prop} (x0 x1 x2 x3 : Int) (h : ((10 ≤ x3 → (K x0).1 = 12 ∧ (0 : Int) ≤ F x0 67 ∧ (K (F x0 67)).1 = 20 ∧ ((0 : Int) ≤ x2 ∧ x2 < ((K (F x0 67)).2 : Int)) ∧ (∀ E1, E1 = pUp E (F x0 67) x2 x1 → (-2147483648 ≤ x2 + 1 ∧ x2 + 1 < 2147483648) ∧ PC l G 7 mX12_readSum (0, 0) [(2, x0), (0, x2 + 1)] (n, K, F, E1) (fun r μ => PW l G 9 mX12_readOrder bg 120 [(0, (2, x0)), (1, (0, x1)), (2, (0, x2))] (r.toList ++ []) μ Q))) ∧ (¬ (10 ≤ x3) → (K x0).1 = 12 ∧ (-2147483648 ≤ x2 + x3 ∧ x2 + x3 < 2147483648) ∧ (0 : Int) ≤ F x0 67 ∧ (K (F x0 67)).1 = 20 ∧ ((0 : Int) ≤ x2 + x3 ∧ x2 + x3 < ((K (F x0 67)).2 : Int)) ∧ (∀ E2, E2 = pUp E (F x0 67) (x2 + x3) 0 → (-2147483648 ≤ x3 + 1 ∧ x3 + 1 < 2147483648) ∧ PW l G 9 mX12_readOrder bg 85 [(0, (2, x0)), (1, (0, x1)), (2, (0, x2)), (3, (0, x3 + 1))] [] (n, K, F, E2) Q)))) : PW l G 9 mX12_readOrder bg 85 [(0, (2, x0)), (1, (0, x1)), (2, (0, x2)), (3, (0, x3))] [] (n, K, F, E) Q := by
  refine s_iload_n (q := 86) 49 3 rfl rfl ?_
  refine s_bipush (q := 88) 50 rfl ?_
  refine s_icmp_ge (q := 91) (tgt := 106) 51 rfl rfl (fun hb => ?_) (fun hb => ?_)
  · skip
    have b1 := hb
    replace h := h.1 hb
    refine s_aload_n (q := 107) 61 0 rfl rfl ?_
    obtain ⟨c2, h⟩ := h
    refine n_getf (q := 110) (jj := 67) 62 12 67 rfl kX12_162 c2 ?_
    refine s_iload_n (q := 111) 63 2 rfl rfl ?_
    refine s_iload_n (q := 112) 64 1 rfl rfl ?_
    obtain ⟨c3, h⟩ := h
    obtain ⟨c4, h⟩ := h
    obtain ⟨c5, h⟩ := h
    refine n_iast (q := 113) 65 rfl c3 c4 c5 ?_
    refine PW.nameE (fun E1 eE1 => ?_)
    replace h := h E1 eE1
    refine s_aload_n (q := 114) 66 0 rfl rfl ?_
    refine s_iload_n (q := 115) 67 2 rfl rfl ?_
    refine s_iconst (q := 116) 68 rfl ?_
    obtain ⟨c6, h⟩ := h
    refine n_iadd (q := 117) 69 rfl c6 ?_
    refine PW.pick [0, 1, 2] rfl ?_
    exact n_callV (N := mX12_readSum) (as := [(0, x2 + 1)]) (st := []) (q := 120) (d' := 7) 70 rfl uX12_readSum kX12_573 rfl c2 h
  · skip
    have b1 := hb
    replace h := h.2 hb
    refine s_aload_n (q := 92) 52 0 rfl rfl ?_
    obtain ⟨c7, h⟩ := h
    refine n_getf (q := 95) (jj := 67) 53 12 67 rfl kX12_162 c7 ?_
    refine s_iload_n (q := 96) 54 2 rfl rfl ?_
    refine s_iload_n (q := 97) 55 3 rfl rfl ?_
    obtain ⟨c8, h⟩ := h
    refine n_iadd (q := 98) 56 rfl c8 ?_
    refine s_iconst (q := 99) 57 rfl ?_
    obtain ⟨c9, h⟩ := h
    obtain ⟨c10, h⟩ := h
    obtain ⟨c11, h⟩ := h
    refine n_iast (q := 100) 58 rfl c9 c10 c11 ?_
    refine PW.nameE (fun E2 eE2 => ?_)
    replace h := h E2 eE2
    obtain ⟨c12, h⟩ := h
    refine n_iinc (q := 103) (lv' := [(3, (0, x3 + 1)), (0, (2, x0)), (1, (0, x1)), (2, (0, x2))]) 59 3 rfl rfl c12 rfl ?_
    refine s_goto (tgt := 85) 60 rfl rfl ?_
    refine PW.pick [1, 2, 3, 0] rfl ?_
    exact h
theorem vX12_readOrder_120 {l : Launch} {G : pG} {bg : Nat × Nat} {n : Nat} {K : Int → Nat × Nat} {F E : Int → Int → Int} {Q : Option pV → pM → Prop} (x0 x1 x2 : Int) (h : ((¬ x1 = 0 → ((x1 < 2 → (K x0).1 = 12 ∧ (-2147483648 ≤ x2 + 7 ∧ x2 + 7 < 2147483648) ∧ (0 : Int) ≤ F x0 67 ∧ (K (F x0 67)).1 = 20 ∧ ((0 : Int) ≤ x2 + 7 ∧ x2 + 7 < ((K (F x0 67)).2 : Int)) ∧ (∀ E1, E1 = pUp E (F x0 67) (x2 + 7) 1 → ((¬ (F x0 19) = 0 → (-2147483648 ≤ x2 + 5 ∧ x2 + 5 < 2147483648) ∧ ((0 : Int) ≤ x2 + 5 ∧ x2 + 5 < ((K (F x0 67)).2 : Int)) ∧ (∀ E2, E2 = pUp E1 (F x0 67) (x2 + 5) (F x0 23) → ((¬ (F x0 19) = 0 → (-2147483648 ≤ x2 + 6 ∧ x2 + 6 < 2147483648) ∧ ((0 : Int) ≤ x2 + 6 ∧ x2 + 6 < ((K (F x0 67)).2 : Int)) ∧ (∀ E3, E3 = pUp E2 (F x0 67) (x2 + 6) (F x0 23) → Q none (n, K, F, E3))) ∧ ((F x0 19) = 0 → ((¬ (F x0 16 = 1 ∧ F x0 17 = 294) → (-2147483648 ≤ x2 + 6 ∧ x2 + 6 < 2147483648) ∧ ((0 : Int) ≤ x2 + 6 ∧ x2 + 6 < ((K (F x0 67)).2 : Int)) ∧ (∀ E4, E4 = pUp E2 (F x0 67) (x2 + 6) (F x0 23) → Q none (n, K, F, E4))) ∧ (F x0 16 = 1 ∧ F x0 17 = 294 → PC l G 1 mX12_next (0, 0) [(2, x0)] (n, K, F, E2) (fun r μ => PW l G 9 mX12_readOrder bg 241 [(0, (2, x0)), (2, (0, x2))] (r.toList ++ []) μ Q))))))) ∧ ((F x0 19) = 0 → ((¬ (F x0 16 = 1 ∧ F x0 17 = 21279923) → (-2147483648 ≤ x2 + 5 ∧ x2 + 5 < 2147483648) ∧ ((0 : Int) ≤ x2 + 5 ∧ x2 + 5 < ((K (F x0 67)).2 : Int)) ∧ (∀ E5, E5 = pUp E1 (F x0 67) (x2 + 5) (F x0 23) → ((¬ (F x0 19) = 0 → (-2147483648 ≤ x2 + 6 ∧ x2 + 6 < 2147483648) ∧ ((0 : Int) ≤ x2 + 6 ∧ x2 + 6 < ((K (F x0 67)).2 : Int)) ∧ (∀ E6, E6 = pUp E5 (F x0 67) (x2 + 6) (F x0 23) → Q none (n, K, F, E6))) ∧ ((F x0 19) = 0 → ((¬ (F x0 16 = 1 ∧ F x0 17 = 294) → (-2147483648 ≤ x2 + 6 ∧ x2 + 6 < 2147483648) ∧ ((0 : Int) ≤ x2 + 6 ∧ x2 + 6 < ((K (F x0 67)).2 : Int)) ∧ (∀ E7, E7 = pUp E5 (F x0 67) (x2 + 6) (F x0 23) → Q none (n, K, F, E7))) ∧ (F x0 16 = 1 ∧ F x0 17 = 294 → PC l G 1 mX12_next (0, 0) [(2, x0)] (n, K, F, E5) (fun r μ => PW l G 9 mX12_readOrder bg 241 [(0, (2, x0)), (2, (0, x2))] (r.toList ++ []) μ Q))))))) ∧ (F x0 16 = 1 ∧ F x0 17 = 21279923 → PC l G 1 mX12_next (0, 0) [(2, x0)] (n, K, F, E1) (fun r μ => PW l G 9 mX12_readOrder bg 191 [(0, (2, x0)), (2, (0, x2))] (r.toList ++ []) μ Q))))))) ∧ (¬ (x1 < 2) → (-2147483648 ≤ x2 + 3 ∧ x2 + 3 < 2147483648) ∧ (K x0).1 = 12 ∧ PC l G 8 mX12_readBehind (0, 0) [(2, x0), (1, 655), (0, x2 + 3)] (n, K, F, E) (fun r μ => PW l G 9 mX12_readOrder bg 160 [(0, (2, x0)), (2, (0, x2))] (r.toList ++ []) μ Q)))) ∧ (x1 = 0 → (-2147483648 ≤ x2 + 3 ∧ x2 + 3 < 2147483648) ∧ (K x0).1 = 12 ∧ PC l G 8 mX12_readBehind (0, 0) [(2, x0), (1, 763528), (0, x2 + 3)] (n, K, F, E) (fun r μ => PW l G 9 mX12_readOrder bg 134 [(0, (2, x0)), (1, (0, x1)), (2, (0, x2))] (r.toList ++ []) μ Q)))) : PW l G 9 mX12_readOrder bg 120 [(0, (2, x0)), (1, (0, x1)), (2, (0, x2))] [] (n, K, F, E) Q := by
  refine s_iload_n (q := 121) 71 1 rfl rfl ?_
  refine s_if_ne (q := 124) (tgt := 145) 72 rfl rfl (fun hb => ?_) (fun hb => ?_)
  · skip
    have b1 := hb
    replace h := h.1 hb
    refine s_iload_n (q := 146) 85 1 rfl rfl ?_
    refine s_iconst (q := 147) 86 rfl ?_
    refine s_icmp_lt (q := 150) (tgt := 160) 87 rfl rfl (fun hb => ?_) (fun hb => ?_)
    · skip
      have b2 := hb
      replace h := h.1 hb
      refine s_aload_n (q := 161) 94 0 rfl rfl ?_
      obtain ⟨c3, h⟩ := h
      refine n_getf (q := 164) (jj := 67) 95 12 67 rfl kX12_162 c3 ?_
      refine s_iload_n (q := 165) 96 2 rfl rfl ?_
      refine s_bipush (q := 167) 97 rfl ?_
      obtain ⟨c4, h⟩ := h
      refine n_iadd (q := 168) 98 rfl c4 ?_
      refine s_iconst (q := 169) 99 rfl ?_
      obtain ⟨c5, h⟩ := h
      obtain ⟨c6, h⟩ := h
      obtain ⟨c7, h⟩ := h
      refine n_iast (q := 170) 100 rfl c5 c6 c7 ?_
      refine PW.nameE (fun E1 eE1 => ?_)
      replace h := h E1 eE1
      refine s_aload_n (q := 171) 101 0 rfl rfl ?_
      refine n_getf (q := 174) (jj := 19) 102 12 19 rfl kX12_252 c3 ?_
      refine s_if_ne (q := 177) (tgt := 208) 103 rfl rfl (fun hb => ?_) (fun hb => ?_)
      · skip
        have b8 := hb
        replace h := h.1 hb
        refine s_aload_n (q := 209) 120 0 rfl rfl ?_
        refine n_getf (q := 212) (jj := 67) 121 12 67 rfl kX12_162 c3 ?_
        refine s_iload_n (q := 213) 122 2 rfl rfl ?_
        refine s_iconst (q := 214) 123 rfl ?_
        obtain ⟨c9, h⟩ := h
        refine n_iadd (q := 215) 124 rfl c9 ?_
        refine s_aload_n (q := 216) 125 0 rfl rfl ?_
        refine n_getf (q := 219) (jj := 23) 126 12 23 rfl kX12_289 c3 ?_
        obtain ⟨c10, h⟩ := h
        refine n_iast (q := 220) 127 rfl c5 c6 c10 ?_
        refine PW.nameE (fun E2 eE2 => ?_)
        replace h := h E2 eE2
        refine s_aload_n (q := 221) 128 0 rfl rfl ?_
        refine n_getf (q := 224) (jj := 19) 129 12 19 rfl kX12_252 c3 ?_
        refine s_if_ne (q := 227) (tgt := 246) 130 rfl rfl (fun hb => ?_) (fun hb => ?_)
        · skip
          have b11 := hb
          replace h := h.1 hb
          refine s_aload_n (q := 247) 140 0 rfl rfl ?_
          refine n_getf (q := 250) (jj := 67) 141 12 67 rfl kX12_162 c3 ?_
          refine s_iload_n (q := 251) 142 2 rfl rfl ?_
          refine s_bipush (q := 253) 143 rfl ?_
          obtain ⟨c12, h⟩ := h
          refine n_iadd (q := 254) 144 rfl c12 ?_
          refine s_aload_n (q := 255) 145 0 rfl rfl ?_
          refine n_getf (q := 258) (jj := 23) 146 12 23 rfl kX12_289 c3 ?_
          obtain ⟨c13, h⟩ := h
          refine n_iast (q := 259) 147 rfl c5 c6 c13 ?_
          refine PW.nameE (fun E3 eE3 => ?_)
          replace h := h E3 eE3
          exact s_vret 148 rfl rfl h
        · have hb := Classical.not_not.mp hb
          have b11 := hb
          replace h := h.2 hb
          refine s_aload_n (q := 228) 131 0 rfl rfl ?_
          refine s_ldc2 (q := 231) (x := 294) 132 rfl kX12_389 ?_
          refine n_callV (N := mX12_isWord) (as := [(1, 294)]) (st := []) (q := 234) (d' := 0) 133 rfl uX12_isWord kX12_310 rfl c3 (pX12_isWord c3 ?_)
          show PW l G 9 mX12_readOrder bg 234 [(0, (2, x0)), (1, (0, x1)), (2, (0, x2))] [(0, bI (F x0 16 = 1 ∧ F x0 17 = 294))] (n, K, F, E2) Q
          refine s_if_eq (q := 237) (tgt := 246) 134 rfl rfl (fun hb => ?_) (fun hb => ?_)
          · have hb := bI_f hb
            have b14 := hb
            replace h := h.1 hb
            refine s_aload_n (q := 247) 140 0 rfl rfl ?_
            refine n_getf (q := 250) (jj := 67) 141 12 67 rfl kX12_162 c3 ?_
            refine s_iload_n (q := 251) 142 2 rfl rfl ?_
            refine s_bipush (q := 253) 143 rfl ?_
            obtain ⟨c15, h⟩ := h
            refine n_iadd (q := 254) 144 rfl c15 ?_
            refine s_aload_n (q := 255) 145 0 rfl rfl ?_
            refine n_getf (q := 258) (jj := 23) 146 12 23 rfl kX12_289 c3 ?_
            obtain ⟨c16, h⟩ := h
            refine n_iast (q := 259) 147 rfl c5 c6 c16 ?_
            refine PW.nameE (fun E4 eE4 => ?_)
            replace h := h E4 eE4
            exact s_vret 148 rfl rfl h
          · have hb := bI_t hb
            have b14 := hb
            replace h := h.2 hb
            refine s_aload_n (q := 238) 135 0 rfl rfl ?_
            refine PW.pick [0, 2] rfl ?_
            exact n_callV (N := mX12_next) (as := []) (st := []) (q := 241) (d' := 1) 136 rfl uX12_next kX12_256 rfl c3 h
      · have hb := Classical.not_not.mp hb
        have b8 := hb
        replace h := h.2 hb
        refine s_aload_n (q := 178) 104 0 rfl rfl ?_
        refine s_ldc2 (q := 181) (x := 21279923) 105 rfl kX12_584 ?_
        refine n_callV (N := mX12_isWord) (as := [(1, 21279923)]) (st := []) (q := 184) (d' := 0) 106 rfl uX12_isWord kX12_310 rfl c3 (pX12_isWord c3 ?_)
        show PW l G 9 mX12_readOrder bg 184 [(0, (2, x0)), (1, (0, x1)), (2, (0, x2))] [(0, bI (F x0 16 = 1 ∧ F x0 17 = 21279923))] (n, K, F, E1) Q
        refine s_if_eq (q := 187) (tgt := 208) 107 rfl rfl (fun hb => ?_) (fun hb => ?_)
        · have hb := bI_f hb
          have b17 := hb
          replace h := h.1 hb
          refine s_aload_n (q := 209) 120 0 rfl rfl ?_
          refine n_getf (q := 212) (jj := 67) 121 12 67 rfl kX12_162 c3 ?_
          refine s_iload_n (q := 213) 122 2 rfl rfl ?_
          refine s_iconst (q := 214) 123 rfl ?_
          obtain ⟨c18, h⟩ := h
          refine n_iadd (q := 215) 124 rfl c18 ?_
          refine s_aload_n (q := 216) 125 0 rfl rfl ?_
          refine n_getf (q := 219) (jj := 23) 126 12 23 rfl kX12_289 c3 ?_
          obtain ⟨c19, h⟩ := h
          refine n_iast (q := 220) 127 rfl c5 c6 c19 ?_
          refine PW.nameE (fun E5 eE5 => ?_)
          replace h := h E5 eE5
          refine s_aload_n (q := 221) 128 0 rfl rfl ?_
          refine n_getf (q := 224) (jj := 19) 129 12 19 rfl kX12_252 c3 ?_
          refine s_if_ne (q := 227) (tgt := 246) 130 rfl rfl (fun hb => ?_) (fun hb => ?_)
          · skip
            have b20 := hb
            replace h := h.1 hb
            refine s_aload_n (q := 247) 140 0 rfl rfl ?_
            refine n_getf (q := 250) (jj := 67) 141 12 67 rfl kX12_162 c3 ?_
            refine s_iload_n (q := 251) 142 2 rfl rfl ?_
            refine s_bipush (q := 253) 143 rfl ?_
            obtain ⟨c21, h⟩ := h
            refine n_iadd (q := 254) 144 rfl c21 ?_
            refine s_aload_n (q := 255) 145 0 rfl rfl ?_
            refine n_getf (q := 258) (jj := 23) 146 12 23 rfl kX12_289 c3 ?_
            obtain ⟨c22, h⟩ := h
            refine n_iast (q := 259) 147 rfl c5 c6 c22 ?_
            refine PW.nameE (fun E6 eE6 => ?_)
            replace h := h E6 eE6
            exact s_vret 148 rfl rfl h
          · have hb := Classical.not_not.mp hb
            have b20 := hb
            replace h := h.2 hb
            refine s_aload_n (q := 228) 131 0 rfl rfl ?_
            refine s_ldc2 (q := 231) (x := 294) 132 rfl kX12_389 ?_
            refine n_callV (N := mX12_isWord) (as := [(1, 294)]) (st := []) (q := 234) (d' := 0) 133 rfl uX12_isWord kX12_310 rfl c3 (pX12_isWord c3 ?_)
            show PW l G 9 mX12_readOrder bg 234 [(0, (2, x0)), (1, (0, x1)), (2, (0, x2))] [(0, bI (F x0 16 = 1 ∧ F x0 17 = 294))] (n, K, F, E5) Q
            refine s_if_eq (q := 237) (tgt := 246) 134 rfl rfl (fun hb => ?_) (fun hb => ?_)
            · have hb := bI_f hb
              have b23 := hb
              replace h := h.1 hb
              refine s_aload_n (q := 247) 140 0 rfl rfl ?_
              refine n_getf (q := 250) (jj := 67) 141 12 67 rfl kX12_162 c3 ?_
              refine s_iload_n (q := 251) 142 2 rfl rfl ?_
              refine s_bipush (q := 253) 143 rfl ?_
              obtain ⟨c24, h⟩ := h
              refine n_iadd (q := 254) 144 rfl c24 ?_
              refine s_aload_n (q := 255) 145 0 rfl rfl ?_
              refine n_getf (q := 258) (jj := 23) 146 12 23 rfl kX12_289 c3 ?_
              obtain ⟨c25, h⟩ := h
              refine n_iast (q := 259) 147 rfl c5 c6 c25 ?_
              refine PW.nameE (fun E7 eE7 => ?_)
              replace h := h E7 eE7
              exact s_vret 148 rfl rfl h
            · have hb := bI_t hb
              have b23 := hb
              replace h := h.2 hb
              refine s_aload_n (q := 238) 135 0 rfl rfl ?_
              refine PW.pick [0, 2] rfl ?_
              exact n_callV (N := mX12_next) (as := []) (st := []) (q := 241) (d' := 1) 136 rfl uX12_next kX12_256 rfl c3 h
        · have hb := bI_t hb
          have b17 := hb
          replace h := h.2 hb
          refine s_aload_n (q := 188) 108 0 rfl rfl ?_
          refine PW.pick [0, 2] rfl ?_
          exact n_callV (N := mX12_next) (as := []) (st := []) (q := 191) (d' := 1) 109 rfl uX12_next kX12_256 rfl c3 h
    · skip
      have b2 := hb
      replace h := h.2 hb
      refine s_aload_n (q := 151) 88 0 rfl rfl ?_
      refine s_ldc2 (q := 154) (x := 655) 89 rfl kX12_582 ?_
      refine s_iload_n (q := 155) 90 2 rfl rfl ?_
      refine s_iconst (q := 156) 91 rfl ?_
      obtain ⟨c26, h⟩ := h
      refine n_iadd (q := 157) 92 rfl c26 ?_
      obtain ⟨c27, h⟩ := h
      refine PW.pick [0, 2] rfl ?_
      exact n_callV (N := mX12_readBehind) (as := [(1, 655), (0, x2 + 3)]) (st := []) (q := 160) (d' := 8) 93 rfl uX12_readBehind kX12_578 rfl c27 h
  · have hb := Classical.not_not.mp hb
    have b1 := hb
    replace h := h.2 hb
    refine s_aload_n (q := 125) 73 0 rfl rfl ?_
    refine s_ldc2 (q := 128) (x := 763528) 74 rfl kX12_576 ?_
    refine s_iload_n (q := 129) 75 2 rfl rfl ?_
    refine s_iconst (q := 130) 76 rfl ?_
    obtain ⟨c28, h⟩ := h
    refine n_iadd (q := 131) 77 rfl c28 ?_
    obtain ⟨c29, h⟩ := h
    refine PW.pick [0, 1, 2] rfl ?_
    exact n_callV (N := mX12_readBehind) (as := [(1, 763528), (0, x2 + 3)]) (st := []) (q := 134) (d' := 8) 78 rfl uX12_readBehind kX12_578 rfl c29 h
theorem vX12_readOrder_134 {l : Launch} {G : pG} {bg : Nat × Nat} {n : Nat} {K : Int → Nat × Nat} {F E : Int → Int → Int} {Q : Option pV → pM → Prop} (x0 x1 x2 : Int) (h : (-2147483648 ≤ x2 + 8 ∧ x2 + 8 < 2147483648) ∧ (K x0).1 = 12 ∧ PC l G 8 mX12_readBehind (0, 0) [(2, x0), (1, 1476), (0, x2 + 8)] (n, K, F, E) (fun r μ => PW l G 9 mX12_readOrder bg 145 [(0, (2, x0)), (1, (0, x1)), (2, (0, x2))] (r.toList ++ []) μ Q)) : PW l G 9 mX12_readOrder bg 134 [(0, (2, x0)), (1, (0, x1)), (2, (0, x2))] [] (n, K, F, E) Q := by
  refine s_aload_n (q := 135) 79 0 rfl rfl ?_
  refine s_ldc2 (q := 138) (x := 1476) 80 rfl kX12_366 ?_
  refine s_iload_n (q := 139) 81 2 rfl rfl ?_
  refine s_bipush (q := 141) 82 rfl ?_
  obtain ⟨c1, h⟩ := h
  refine n_iadd (q := 142) 83 rfl c1 ?_
  obtain ⟨c2, h⟩ := h
  refine PW.pick [0, 1, 2] rfl ?_
  exact n_callV (N := mX12_readBehind) (as := [(1, 1476), (0, x2 + 8)]) (st := []) (q := 145) (d' := 8) 84 rfl uX12_readBehind kX12_578 rfl c2 h
theorem vX12_readOrder_160 {l : Launch} {G : pG} {bg : Nat × Nat} {n : Nat} {K : Int → Nat × Nat} {F E : Int → Int → Int} {Q : Option pV → pM → Prop} (x0 x2 : Int) (h : (K x0).1 = 12 ∧ (-2147483648 ≤ x2 + 7 ∧ x2 + 7 < 2147483648) ∧ (0 : Int) ≤ F x0 67 ∧ (K (F x0 67)).1 = 20 ∧ ((0 : Int) ≤ x2 + 7 ∧ x2 + 7 < ((K (F x0 67)).2 : Int)) ∧ (∀ E1, E1 = pUp E (F x0 67) (x2 + 7) 1 → ((¬ (F x0 19) = 0 → (-2147483648 ≤ x2 + 5 ∧ x2 + 5 < 2147483648) ∧ ((0 : Int) ≤ x2 + 5 ∧ x2 + 5 < ((K (F x0 67)).2 : Int)) ∧ (∀ E2, E2 = pUp E1 (F x0 67) (x2 + 5) (F x0 23) → ((¬ (F x0 19) = 0 → (-2147483648 ≤ x2 + 6 ∧ x2 + 6 < 2147483648) ∧ ((0 : Int) ≤ x2 + 6 ∧ x2 + 6 < ((K (F x0 67)).2 : Int)) ∧ (∀ E3, E3 = pUp E2 (F x0 67) (x2 + 6) (F x0 23) → Q none (n, K, F, E3))) ∧ ((F x0 19) = 0 → ((¬ (F x0 16 = 1 ∧ F x0 17 = 294) → (-2147483648 ≤ x2 + 6 ∧ x2 + 6 < 2147483648) ∧ ((0 : Int) ≤ x2 + 6 ∧ x2 + 6 < ((K (F x0 67)).2 : Int)) ∧ (∀ E4, E4 = pUp E2 (F x0 67) (x2 + 6) (F x0 23) → Q none (n, K, F, E4))) ∧ (F x0 16 = 1 ∧ F x0 17 = 294 → PC l G 1 mX12_next (0, 0) [(2, x0)] (n, K, F, E2) (fun r μ => PW l G 9 mX12_readOrder bg 241 [(0, (2, x0)), (2, (0, x2))] (r.toList ++ []) μ Q))))))) ∧ ((F x0 19) = 0 → ((¬ (F x0 16 = 1 ∧ F x0 17 = 21279923) → (-2147483648 ≤ x2 + 5 ∧ x2 + 5 < 2147483648) ∧ ((0 : Int) ≤ x2 + 5 ∧ x2 + 5 < ((K (F x0 67)).2 : Int)) ∧ (∀ E5, E5 = pUp E1 (F x0 67) (x2 + 5) (F x0 23) → ((¬ (F x0 19) = 0 → (-2147483648 ≤ x2 + 6 ∧ x2 + 6 < 2147483648) ∧ ((0 : Int) ≤ x2 + 6 ∧ x2 + 6 < ((K (F x0 67)).2 : Int)) ∧ (∀ E6, E6 = pUp E5 (F x0 67) (x2 + 6) (F x0 23) → Q none (n, K, F, E6))) ∧ ((F x0 19) = 0 → ((¬ (F x0 16 = 1 ∧ F x0 17 = 294) → (-2147483648 ≤ x2 + 6 ∧ x2 + 6 < 2147483648) ∧ ((0 : Int) ≤ x2 + 6 ∧ x2 + 6 < ((K (F x0 67)).2 : Int)) ∧ (∀ E7, E7 = pUp E5 (F x0 67) (x2 + 6) (F x0 23) → Q none (n, K, F, E7))) ∧ (F x0 16 = 1 ∧ F x0 17 = 294 → PC l G 1 mX12_next (0, 0) [(2, x0)] (n, K, F, E5) (fun r μ => PW l G 9 mX12_readOrder bg 241 [(0, (2, x0)), (2, (0, x2))] (r.toList ++ []) μ Q))))))) ∧ (F x0 16 = 1 ∧ F x0 17 = 21279923 → PC l G 1 mX12_next (0, 0) [(2, x0)] (n, K, F, E1) (fun r μ => PW l G 9 mX12_readOrder bg 191 [(0, (2, x0)), (2, (0, x2))] (r.toList ++ []) μ Q))))))) : PW l G 9 mX12_readOrder bg 160 [(0, (2, x0)), (2, (0, x2))] [] (n, K, F, E) Q := by
  refine s_aload_n (q := 161) 94 0 rfl rfl ?_
  obtain ⟨c1, h⟩ := h
  refine n_getf (q := 164) (jj := 67) 95 12 67 rfl kX12_162 c1 ?_
  refine s_iload_n (q := 165) 96 1 rfl rfl ?_
  refine s_bipush (q := 167) 97 rfl ?_
  obtain ⟨c2, h⟩ := h
  refine n_iadd (q := 168) 98 rfl c2 ?_
  refine s_iconst (q := 169) 99 rfl ?_
  obtain ⟨c3, h⟩ := h
  obtain ⟨c4, h⟩ := h
  obtain ⟨c5, h⟩ := h
  refine n_iast (q := 170) 100 rfl c3 c4 c5 ?_
  refine PW.nameE (fun E1 eE1 => ?_)
  replace h := h E1 eE1
  refine s_aload_n (q := 171) 101 0 rfl rfl ?_
  refine n_getf (q := 174) (jj := 19) 102 12 19 rfl kX12_252 c1 ?_
  refine s_if_ne (q := 177) (tgt := 208) 103 rfl rfl (fun hb => ?_) (fun hb => ?_)
  · skip
    have b6 := hb
    replace h := h.1 hb
    refine s_aload_n (q := 209) 120 0 rfl rfl ?_
    refine n_getf (q := 212) (jj := 67) 121 12 67 rfl kX12_162 c1 ?_
    refine s_iload_n (q := 213) 122 1 rfl rfl ?_
    refine s_iconst (q := 214) 123 rfl ?_
    obtain ⟨c7, h⟩ := h
    refine n_iadd (q := 215) 124 rfl c7 ?_
    refine s_aload_n (q := 216) 125 0 rfl rfl ?_
    refine n_getf (q := 219) (jj := 23) 126 12 23 rfl kX12_289 c1 ?_
    obtain ⟨c8, h⟩ := h
    refine n_iast (q := 220) 127 rfl c3 c4 c8 ?_
    refine PW.nameE (fun E2 eE2 => ?_)
    replace h := h E2 eE2
    refine s_aload_n (q := 221) 128 0 rfl rfl ?_
    refine n_getf (q := 224) (jj := 19) 129 12 19 rfl kX12_252 c1 ?_
    refine s_if_ne (q := 227) (tgt := 246) 130 rfl rfl (fun hb => ?_) (fun hb => ?_)
    · skip
      have b9 := hb
      replace h := h.1 hb
      refine s_aload_n (q := 247) 140 0 rfl rfl ?_
      refine n_getf (q := 250) (jj := 67) 141 12 67 rfl kX12_162 c1 ?_
      refine s_iload_n (q := 251) 142 1 rfl rfl ?_
      refine s_bipush (q := 253) 143 rfl ?_
      obtain ⟨c10, h⟩ := h
      refine n_iadd (q := 254) 144 rfl c10 ?_
      refine s_aload_n (q := 255) 145 0 rfl rfl ?_
      refine n_getf (q := 258) (jj := 23) 146 12 23 rfl kX12_289 c1 ?_
      obtain ⟨c11, h⟩ := h
      refine n_iast (q := 259) 147 rfl c3 c4 c11 ?_
      refine PW.nameE (fun E3 eE3 => ?_)
      replace h := h E3 eE3
      exact s_vret 148 rfl rfl h
    · have hb := Classical.not_not.mp hb
      have b9 := hb
      replace h := h.2 hb
      refine s_aload_n (q := 228) 131 0 rfl rfl ?_
      refine s_ldc2 (q := 231) (x := 294) 132 rfl kX12_389 ?_
      refine n_callV (N := mX12_isWord) (as := [(1, 294)]) (st := []) (q := 234) (d' := 0) 133 rfl uX12_isWord kX12_310 rfl c1 (pX12_isWord c1 ?_)
      show PW l G 9 mX12_readOrder bg 234 [(0, (2, x0)), (2, (0, x2))] [(0, bI (F x0 16 = 1 ∧ F x0 17 = 294))] (n, K, F, E2) Q
      refine s_if_eq (q := 237) (tgt := 246) 134 rfl rfl (fun hb => ?_) (fun hb => ?_)
      · have hb := bI_f hb
        have b12 := hb
        replace h := h.1 hb
        refine s_aload_n (q := 247) 140 0 rfl rfl ?_
        refine n_getf (q := 250) (jj := 67) 141 12 67 rfl kX12_162 c1 ?_
        refine s_iload_n (q := 251) 142 1 rfl rfl ?_
        refine s_bipush (q := 253) 143 rfl ?_
        obtain ⟨c13, h⟩ := h
        refine n_iadd (q := 254) 144 rfl c13 ?_
        refine s_aload_n (q := 255) 145 0 rfl rfl ?_
        refine n_getf (q := 258) (jj := 23) 146 12 23 rfl kX12_289 c1 ?_
        obtain ⟨c14, h⟩ := h
        refine n_iast (q := 259) 147 rfl c3 c4 c14 ?_
        refine PW.nameE (fun E4 eE4 => ?_)
        replace h := h E4 eE4
        exact s_vret 148 rfl rfl h
      · have hb := bI_t hb
        have b12 := hb
        replace h := h.2 hb
        refine s_aload_n (q := 238) 135 0 rfl rfl ?_
        refine PW.pick [0, 1] rfl ?_
        exact n_callV (N := mX12_next) (as := []) (st := []) (q := 241) (d' := 1) 136 rfl uX12_next kX12_256 rfl c1 h
  · have hb := Classical.not_not.mp hb
    have b6 := hb
    replace h := h.2 hb
    refine s_aload_n (q := 178) 104 0 rfl rfl ?_
    refine s_ldc2 (q := 181) (x := 21279923) 105 rfl kX12_584 ?_
    refine n_callV (N := mX12_isWord) (as := [(1, 21279923)]) (st := []) (q := 184) (d' := 0) 106 rfl uX12_isWord kX12_310 rfl c1 (pX12_isWord c1 ?_)
    show PW l G 9 mX12_readOrder bg 184 [(0, (2, x0)), (2, (0, x2))] [(0, bI (F x0 16 = 1 ∧ F x0 17 = 21279923))] (n, K, F, E1) Q
    refine s_if_eq (q := 187) (tgt := 208) 107 rfl rfl (fun hb => ?_) (fun hb => ?_)
    · have hb := bI_f hb
      have b15 := hb
      replace h := h.1 hb
      refine s_aload_n (q := 209) 120 0 rfl rfl ?_
      refine n_getf (q := 212) (jj := 67) 121 12 67 rfl kX12_162 c1 ?_
      refine s_iload_n (q := 213) 122 1 rfl rfl ?_
      refine s_iconst (q := 214) 123 rfl ?_
      obtain ⟨c16, h⟩ := h
      refine n_iadd (q := 215) 124 rfl c16 ?_
      refine s_aload_n (q := 216) 125 0 rfl rfl ?_
      refine n_getf (q := 219) (jj := 23) 126 12 23 rfl kX12_289 c1 ?_
      obtain ⟨c17, h⟩ := h
      refine n_iast (q := 220) 127 rfl c3 c4 c17 ?_
      refine PW.nameE (fun E5 eE5 => ?_)
      replace h := h E5 eE5
      refine s_aload_n (q := 221) 128 0 rfl rfl ?_
      refine n_getf (q := 224) (jj := 19) 129 12 19 rfl kX12_252 c1 ?_
      refine s_if_ne (q := 227) (tgt := 246) 130 rfl rfl (fun hb => ?_) (fun hb => ?_)
      · skip
        have b18 := hb
        replace h := h.1 hb
        refine s_aload_n (q := 247) 140 0 rfl rfl ?_
        refine n_getf (q := 250) (jj := 67) 141 12 67 rfl kX12_162 c1 ?_
        refine s_iload_n (q := 251) 142 1 rfl rfl ?_
        refine s_bipush (q := 253) 143 rfl ?_
        obtain ⟨c19, h⟩ := h
        refine n_iadd (q := 254) 144 rfl c19 ?_
        refine s_aload_n (q := 255) 145 0 rfl rfl ?_
        refine n_getf (q := 258) (jj := 23) 146 12 23 rfl kX12_289 c1 ?_
        obtain ⟨c20, h⟩ := h
        refine n_iast (q := 259) 147 rfl c3 c4 c20 ?_
        refine PW.nameE (fun E6 eE6 => ?_)
        replace h := h E6 eE6
        exact s_vret 148 rfl rfl h
      · have hb := Classical.not_not.mp hb
        have b18 := hb
        replace h := h.2 hb
        refine s_aload_n (q := 228) 131 0 rfl rfl ?_
        refine s_ldc2 (q := 231) (x := 294) 132 rfl kX12_389 ?_
        refine n_callV (N := mX12_isWord) (as := [(1, 294)]) (st := []) (q := 234) (d' := 0) 133 rfl uX12_isWord kX12_310 rfl c1 (pX12_isWord c1 ?_)
        show PW l G 9 mX12_readOrder bg 234 [(0, (2, x0)), (2, (0, x2))] [(0, bI (F x0 16 = 1 ∧ F x0 17 = 294))] (n, K, F, E5) Q
        refine s_if_eq (q := 237) (tgt := 246) 134 rfl rfl (fun hb => ?_) (fun hb => ?_)
        · have hb := bI_f hb
          have b21 := hb
          replace h := h.1 hb
          refine s_aload_n (q := 247) 140 0 rfl rfl ?_
          refine n_getf (q := 250) (jj := 67) 141 12 67 rfl kX12_162 c1 ?_
          refine s_iload_n (q := 251) 142 1 rfl rfl ?_
          refine s_bipush (q := 253) 143 rfl ?_
          obtain ⟨c22, h⟩ := h
          refine n_iadd (q := 254) 144 rfl c22 ?_
          refine s_aload_n (q := 255) 145 0 rfl rfl ?_
          refine n_getf (q := 258) (jj := 23) 146 12 23 rfl kX12_289 c1 ?_
          obtain ⟨c23, h⟩ := h
          refine n_iast (q := 259) 147 rfl c3 c4 c23 ?_
          refine PW.nameE (fun E7 eE7 => ?_)
          replace h := h E7 eE7
          exact s_vret 148 rfl rfl h
        · have hb := bI_t hb
          have b21 := hb
          replace h := h.2 hb
          refine s_aload_n (q := 238) 135 0 rfl rfl ?_
          refine PW.pick [0, 1] rfl ?_
          exact n_callV (N := mX12_next) (as := []) (st := []) (q := 241) (d' := 1) 136 rfl uX12_next kX12_256 rfl c1 h
    · have hb := bI_t hb
      have b15 := hb
      replace h := h.2 hb
      refine s_aload_n (q := 188) 108 0 rfl rfl ?_
      refine PW.pick [0, 1] rfl ?_
      exact n_callV (N := mX12_next) (as := []) (st := []) (q := 191) (d' := 1) 109 rfl uX12_next kX12_256 rfl c1 h
theorem vX12_readOrder_191 {l : Launch} {G : pG} {bg : Nat × Nat} {n : Nat} {K : Int → Nat × Nat} {F E : Int → Int → Int} {Q : Option pV → pM → Prop} (x0 x2 : Int) (h : (K x0).1 = 12 ∧ (-2147483648 ≤ x2 + 7 ∧ x2 + 7 < 2147483648) ∧ PC l G 3 mX12_number (0, 0) [(2, x0), (1, 1), (1, 20)] (n, K, F, E) (fun r μ => PW l G 9 mX12_readOrder bg 207 [(0, (2, x0)), (2, (0, x2))] (r.toList ++ [(0, x2 + 7), (2, F x0 67)]) μ Q)) : PW l G 9 mX12_readOrder bg 191 [(0, (2, x0)), (2, (0, x2))] [] (n, K, F, E) Q := by
  refine s_aload_n (q := 192) 110 0 rfl rfl ?_
  obtain ⟨c1, h⟩ := h
  refine n_getf (q := 195) (jj := 67) 111 12 67 rfl kX12_162 c1 ?_
  refine s_iload_n (q := 196) 112 1 rfl rfl ?_
  refine s_bipush (q := 198) 113 rfl ?_
  obtain ⟨c2, h⟩ := h
  refine n_iadd (q := 199) 114 rfl c2 ?_
  refine s_aload_n (q := 200) 115 0 rfl rfl ?_
  refine s_lconst (q := 201) (x := 1) 116 rfl ?_
  refine s_ldc2 (q := 204) (x := 20) 117 rfl kX12_302 ?_
  refine PW.pick [0, 1] rfl ?_
  exact n_callV (N := mX12_number) (as := [(1, 1), (1, 20)]) (st := [(0, x2 + 7), (2, F x0 67)]) (q := 207) (d' := 3) 118 rfl uX12_number kX12_347 rfl c1 h
theorem vX12_readOrder_241 {l : Launch} {G : pG} {bg : Nat × Nat} {n : Nat} {K : Int → Nat × Nat} {F E : Int → Int → Int} {Q : Option pV → pM → Prop} (x0 x2 : Int) (h : (K x0).1 = 12 ∧ PC l G 6 mX12_readExpression (0, 0) [(2, x0), (0, 1)] (n, K, F, E) (fun r μ => PW l G 9 mX12_readOrder bg 246 [(0, (2, x0)), (2, (0, x2))] (r.toList ++ []) μ Q)) : PW l G 9 mX12_readOrder bg 241 [(0, (2, x0)), (2, (0, x2))] [] (n, K, F, E) Q := by
  refine s_aload_n (q := 242) 137 0 rfl rfl ?_
  refine s_iconst (q := 243) 138 rfl ?_
  obtain ⟨c1, h⟩ := h
  refine PW.pick [0, 1] rfl ?_
  exact n_callV (N := mX12_readExpression) (as := [(0, 1)]) (st := []) (q := 246) (d' := 6) 139 rfl uX12_readExpression kX12_386 rfl c1 h
theorem vX12_readOrder_145 {l : Launch} {G : pG} {bg : Nat × Nat} {n : Nat} {K : Int → Nat × Nat} {F E : Int → Int → Int} {Q : Option pV → pM → Prop} (x0 x1 x2 : Int) (h : ((x1 < 2 → (K x0).1 = 12 ∧ (-2147483648 ≤ x2 + 7 ∧ x2 + 7 < 2147483648) ∧ (0 : Int) ≤ F x0 67 ∧ (K (F x0 67)).1 = 20 ∧ ((0 : Int) ≤ x2 + 7 ∧ x2 + 7 < ((K (F x0 67)).2 : Int)) ∧ (∀ E1, E1 = pUp E (F x0 67) (x2 + 7) 1 → ((¬ (F x0 19) = 0 → (-2147483648 ≤ x2 + 5 ∧ x2 + 5 < 2147483648) ∧ ((0 : Int) ≤ x2 + 5 ∧ x2 + 5 < ((K (F x0 67)).2 : Int)) ∧ (∀ E2, E2 = pUp E1 (F x0 67) (x2 + 5) (F x0 23) → ((¬ (F x0 19) = 0 → (-2147483648 ≤ x2 + 6 ∧ x2 + 6 < 2147483648) ∧ ((0 : Int) ≤ x2 + 6 ∧ x2 + 6 < ((K (F x0 67)).2 : Int)) ∧ (∀ E3, E3 = pUp E2 (F x0 67) (x2 + 6) (F x0 23) → Q none (n, K, F, E3))) ∧ ((F x0 19) = 0 → ((¬ (F x0 16 = 1 ∧ F x0 17 = 294) → (-2147483648 ≤ x2 + 6 ∧ x2 + 6 < 2147483648) ∧ ((0 : Int) ≤ x2 + 6 ∧ x2 + 6 < ((K (F x0 67)).2 : Int)) ∧ (∀ E4, E4 = pUp E2 (F x0 67) (x2 + 6) (F x0 23) → Q none (n, K, F, E4))) ∧ (F x0 16 = 1 ∧ F x0 17 = 294 → PC l G 1 mX12_next (0, 0) [(2, x0)] (n, K, F, E2) (fun r μ => PW l G 9 mX12_readOrder bg 241 [(0, (2, x0)), (2, (0, x2))] (r.toList ++ []) μ Q))))))) ∧ ((F x0 19) = 0 → ((¬ (F x0 16 = 1 ∧ F x0 17 = 21279923) → (-2147483648 ≤ x2 + 5 ∧ x2 + 5 < 2147483648) ∧ ((0 : Int) ≤ x2 + 5 ∧ x2 + 5 < ((K (F x0 67)).2 : Int)) ∧ (∀ E5, E5 = pUp E1 (F x0 67) (x2 + 5) (F x0 23) → ((¬ (F x0 19) = 0 → (-2147483648 ≤ x2 + 6 ∧ x2 + 6 < 2147483648) ∧ ((0 : Int) ≤ x2 + 6 ∧ x2 + 6 < ((K (F x0 67)).2 : Int)) ∧ (∀ E6, E6 = pUp E5 (F x0 67) (x2 + 6) (F x0 23) → Q none (n, K, F, E6))) ∧ ((F x0 19) = 0 → ((¬ (F x0 16 = 1 ∧ F x0 17 = 294) → (-2147483648 ≤ x2 + 6 ∧ x2 + 6 < 2147483648) ∧ ((0 : Int) ≤ x2 + 6 ∧ x2 + 6 < ((K (F x0 67)).2 : Int)) ∧ (∀ E7, E7 = pUp E5 (F x0 67) (x2 + 6) (F x0 23) → Q none (n, K, F, E7))) ∧ (F x0 16 = 1 ∧ F x0 17 = 294 → PC l G 1 mX12_next (0, 0) [(2, x0)] (n, K, F, E5) (fun r μ => PW l G 9 mX12_readOrder bg 241 [(0, (2, x0)), (2, (0, x2))] (r.toList ++ []) μ Q))))))) ∧ (F x0 16 = 1 ∧ F x0 17 = 21279923 → PC l G 1 mX12_next (0, 0) [(2, x0)] (n, K, F, E1) (fun r μ => PW l G 9 mX12_readOrder bg 191 [(0, (2, x0)), (2, (0, x2))] (r.toList ++ []) μ Q))))))) ∧ (¬ (x1 < 2) → (-2147483648 ≤ x2 + 3 ∧ x2 + 3 < 2147483648) ∧ (K x0).1 = 12 ∧ PC l G 8 mX12_readBehind (0, 0) [(2, x0), (1, 655), (0, x2 + 3)] (n, K, F, E) (fun r μ => PW l G 9 mX12_readOrder bg 160 [(0, (2, x0)), (2, (0, x2))] (r.toList ++ []) μ Q)))) : PW l G 9 mX12_readOrder bg 145 [(0, (2, x0)), (1, (0, x1)), (2, (0, x2))] [] (n, K, F, E) Q := by
  refine s_iload_n (q := 146) 85 1 rfl rfl ?_
  refine s_iconst (q := 147) 86 rfl ?_
  refine s_icmp_lt (q := 150) (tgt := 160) 87 rfl rfl (fun hb => ?_) (fun hb => ?_)
  · skip
    have b1 := hb
    replace h := h.1 hb
    refine s_aload_n (q := 161) 94 0 rfl rfl ?_
    obtain ⟨c2, h⟩ := h
    refine n_getf (q := 164) (jj := 67) 95 12 67 rfl kX12_162 c2 ?_
    refine s_iload_n (q := 165) 96 2 rfl rfl ?_
    refine s_bipush (q := 167) 97 rfl ?_
    obtain ⟨c3, h⟩ := h
    refine n_iadd (q := 168) 98 rfl c3 ?_
    refine s_iconst (q := 169) 99 rfl ?_
    obtain ⟨c4, h⟩ := h
    obtain ⟨c5, h⟩ := h
    obtain ⟨c6, h⟩ := h
    refine n_iast (q := 170) 100 rfl c4 c5 c6 ?_
    refine PW.nameE (fun E1 eE1 => ?_)
    replace h := h E1 eE1
    refine s_aload_n (q := 171) 101 0 rfl rfl ?_
    refine n_getf (q := 174) (jj := 19) 102 12 19 rfl kX12_252 c2 ?_
    refine s_if_ne (q := 177) (tgt := 208) 103 rfl rfl (fun hb => ?_) (fun hb => ?_)
    · skip
      have b7 := hb
      replace h := h.1 hb
      refine s_aload_n (q := 209) 120 0 rfl rfl ?_
      refine n_getf (q := 212) (jj := 67) 121 12 67 rfl kX12_162 c2 ?_
      refine s_iload_n (q := 213) 122 2 rfl rfl ?_
      refine s_iconst (q := 214) 123 rfl ?_
      obtain ⟨c8, h⟩ := h
      refine n_iadd (q := 215) 124 rfl c8 ?_
      refine s_aload_n (q := 216) 125 0 rfl rfl ?_
      refine n_getf (q := 219) (jj := 23) 126 12 23 rfl kX12_289 c2 ?_
      obtain ⟨c9, h⟩ := h
      refine n_iast (q := 220) 127 rfl c4 c5 c9 ?_
      refine PW.nameE (fun E2 eE2 => ?_)
      replace h := h E2 eE2
      refine s_aload_n (q := 221) 128 0 rfl rfl ?_
      refine n_getf (q := 224) (jj := 19) 129 12 19 rfl kX12_252 c2 ?_
      refine s_if_ne (q := 227) (tgt := 246) 130 rfl rfl (fun hb => ?_) (fun hb => ?_)
      · skip
        have b10 := hb
        replace h := h.1 hb
        refine s_aload_n (q := 247) 140 0 rfl rfl ?_
        refine n_getf (q := 250) (jj := 67) 141 12 67 rfl kX12_162 c2 ?_
        refine s_iload_n (q := 251) 142 2 rfl rfl ?_
        refine s_bipush (q := 253) 143 rfl ?_
        obtain ⟨c11, h⟩ := h
        refine n_iadd (q := 254) 144 rfl c11 ?_
        refine s_aload_n (q := 255) 145 0 rfl rfl ?_
        refine n_getf (q := 258) (jj := 23) 146 12 23 rfl kX12_289 c2 ?_
        obtain ⟨c12, h⟩ := h
        refine n_iast (q := 259) 147 rfl c4 c5 c12 ?_
        refine PW.nameE (fun E3 eE3 => ?_)
        replace h := h E3 eE3
        exact s_vret 148 rfl rfl h
      · have hb := Classical.not_not.mp hb
        have b10 := hb
        replace h := h.2 hb
        refine s_aload_n (q := 228) 131 0 rfl rfl ?_
        refine s_ldc2 (q := 231) (x := 294) 132 rfl kX12_389 ?_
        refine n_callV (N := mX12_isWord) (as := [(1, 294)]) (st := []) (q := 234) (d' := 0) 133 rfl uX12_isWord kX12_310 rfl c2 (pX12_isWord c2 ?_)
        show PW l G 9 mX12_readOrder bg 234 [(0, (2, x0)), (1, (0, x1)), (2, (0, x2))] [(0, bI (F x0 16 = 1 ∧ F x0 17 = 294))] (n, K, F, E2) Q
        refine s_if_eq (q := 237) (tgt := 246) 134 rfl rfl (fun hb => ?_) (fun hb => ?_)
        · have hb := bI_f hb
          have b13 := hb
          replace h := h.1 hb
          refine s_aload_n (q := 247) 140 0 rfl rfl ?_
          refine n_getf (q := 250) (jj := 67) 141 12 67 rfl kX12_162 c2 ?_
          refine s_iload_n (q := 251) 142 2 rfl rfl ?_
          refine s_bipush (q := 253) 143 rfl ?_
          obtain ⟨c14, h⟩ := h
          refine n_iadd (q := 254) 144 rfl c14 ?_
          refine s_aload_n (q := 255) 145 0 rfl rfl ?_
          refine n_getf (q := 258) (jj := 23) 146 12 23 rfl kX12_289 c2 ?_
          obtain ⟨c15, h⟩ := h
          refine n_iast (q := 259) 147 rfl c4 c5 c15 ?_
          refine PW.nameE (fun E4 eE4 => ?_)
          replace h := h E4 eE4
          exact s_vret 148 rfl rfl h
        · have hb := bI_t hb
          have b13 := hb
          replace h := h.2 hb
          refine s_aload_n (q := 238) 135 0 rfl rfl ?_
          refine PW.pick [0, 2] rfl ?_
          exact n_callV (N := mX12_next) (as := []) (st := []) (q := 241) (d' := 1) 136 rfl uX12_next kX12_256 rfl c2 h
    · have hb := Classical.not_not.mp hb
      have b7 := hb
      replace h := h.2 hb
      refine s_aload_n (q := 178) 104 0 rfl rfl ?_
      refine s_ldc2 (q := 181) (x := 21279923) 105 rfl kX12_584 ?_
      refine n_callV (N := mX12_isWord) (as := [(1, 21279923)]) (st := []) (q := 184) (d' := 0) 106 rfl uX12_isWord kX12_310 rfl c2 (pX12_isWord c2 ?_)
      show PW l G 9 mX12_readOrder bg 184 [(0, (2, x0)), (1, (0, x1)), (2, (0, x2))] [(0, bI (F x0 16 = 1 ∧ F x0 17 = 21279923))] (n, K, F, E1) Q
      refine s_if_eq (q := 187) (tgt := 208) 107 rfl rfl (fun hb => ?_) (fun hb => ?_)
      · have hb := bI_f hb
        have b16 := hb
        replace h := h.1 hb
        refine s_aload_n (q := 209) 120 0 rfl rfl ?_
        refine n_getf (q := 212) (jj := 67) 121 12 67 rfl kX12_162 c2 ?_
        refine s_iload_n (q := 213) 122 2 rfl rfl ?_
        refine s_iconst (q := 214) 123 rfl ?_
        obtain ⟨c17, h⟩ := h
        refine n_iadd (q := 215) 124 rfl c17 ?_
        refine s_aload_n (q := 216) 125 0 rfl rfl ?_
        refine n_getf (q := 219) (jj := 23) 126 12 23 rfl kX12_289 c2 ?_
        obtain ⟨c18, h⟩ := h
        refine n_iast (q := 220) 127 rfl c4 c5 c18 ?_
        refine PW.nameE (fun E5 eE5 => ?_)
        replace h := h E5 eE5
        refine s_aload_n (q := 221) 128 0 rfl rfl ?_
        refine n_getf (q := 224) (jj := 19) 129 12 19 rfl kX12_252 c2 ?_
        refine s_if_ne (q := 227) (tgt := 246) 130 rfl rfl (fun hb => ?_) (fun hb => ?_)
        · skip
          have b19 := hb
          replace h := h.1 hb
          refine s_aload_n (q := 247) 140 0 rfl rfl ?_
          refine n_getf (q := 250) (jj := 67) 141 12 67 rfl kX12_162 c2 ?_
          refine s_iload_n (q := 251) 142 2 rfl rfl ?_
          refine s_bipush (q := 253) 143 rfl ?_
          obtain ⟨c20, h⟩ := h
          refine n_iadd (q := 254) 144 rfl c20 ?_
          refine s_aload_n (q := 255) 145 0 rfl rfl ?_
          refine n_getf (q := 258) (jj := 23) 146 12 23 rfl kX12_289 c2 ?_
          obtain ⟨c21, h⟩ := h
          refine n_iast (q := 259) 147 rfl c4 c5 c21 ?_
          refine PW.nameE (fun E6 eE6 => ?_)
          replace h := h E6 eE6
          exact s_vret 148 rfl rfl h
        · have hb := Classical.not_not.mp hb
          have b19 := hb
          replace h := h.2 hb
          refine s_aload_n (q := 228) 131 0 rfl rfl ?_
          refine s_ldc2 (q := 231) (x := 294) 132 rfl kX12_389 ?_
          refine n_callV (N := mX12_isWord) (as := [(1, 294)]) (st := []) (q := 234) (d' := 0) 133 rfl uX12_isWord kX12_310 rfl c2 (pX12_isWord c2 ?_)
          show PW l G 9 mX12_readOrder bg 234 [(0, (2, x0)), (1, (0, x1)), (2, (0, x2))] [(0, bI (F x0 16 = 1 ∧ F x0 17 = 294))] (n, K, F, E5) Q
          refine s_if_eq (q := 237) (tgt := 246) 134 rfl rfl (fun hb => ?_) (fun hb => ?_)
          · have hb := bI_f hb
            have b22 := hb
            replace h := h.1 hb
            refine s_aload_n (q := 247) 140 0 rfl rfl ?_
            refine n_getf (q := 250) (jj := 67) 141 12 67 rfl kX12_162 c2 ?_
            refine s_iload_n (q := 251) 142 2 rfl rfl ?_
            refine s_bipush (q := 253) 143 rfl ?_
            obtain ⟨c23, h⟩ := h
            refine n_iadd (q := 254) 144 rfl c23 ?_
            refine s_aload_n (q := 255) 145 0 rfl rfl ?_
            refine n_getf (q := 258) (jj := 23) 146 12 23 rfl kX12_289 c2 ?_
            obtain ⟨c24, h⟩ := h
            refine n_iast (q := 259) 147 rfl c4 c5 c24 ?_
            refine PW.nameE (fun E7 eE7 => ?_)
            replace h := h E7 eE7
            exact s_vret 148 rfl rfl h
          · have hb := bI_t hb
            have b22 := hb
            replace h := h.2 hb
            refine s_aload_n (q := 238) 135 0 rfl rfl ?_
            refine PW.pick [0, 2] rfl ?_
            exact n_callV (N := mX12_next) (as := []) (st := []) (q := 241) (d' := 1) 136 rfl uX12_next kX12_256 rfl c2 h
      · have hb := bI_t hb
        have b16 := hb
        replace h := h.2 hb
        refine s_aload_n (q := 188) 108 0 rfl rfl ?_
        refine PW.pick [0, 2] rfl ?_
        exact n_callV (N := mX12_next) (as := []) (st := []) (q := 191) (d' := 1) 109 rfl uX12_next kX12_256 rfl c2 h
  · skip
    have b1 := hb
    replace h := h.2 hb
    refine s_aload_n (q := 151) 88 0 rfl rfl ?_
    refine s_ldc2 (q := 154) (x := 655) 89 rfl kX12_582 ?_
    refine s_iload_n (q := 155) 90 2 rfl rfl ?_
    refine s_iconst (q := 156) 91 rfl ?_
    obtain ⟨c25, h⟩ := h
    refine n_iadd (q := 157) 92 rfl c25 ?_
    obtain ⟨c26, h⟩ := h
    refine PW.pick [0, 2] rfl ?_
    exact n_callV (N := mX12_readBehind) (as := [(1, 655), (0, x2 + 3)]) (st := []) (q := 160) (d' := 8) 93 rfl uX12_readBehind kX12_578 rfl c26 h
theorem vX12_readOrder_207 {l : Launch} {G : pG} {bg : Nat × Nat} {n : Nat} {K : Int → Nat × Nat} {F E : Int → Int → Int} {Q : Option pV → pM → Prop} (x0 x2 s0 s1 s2 : Int) (h : (0 : Int) ≤ s2 ∧ (K s2).1 = 20 ∧ ((0 : Int) ≤ s1 ∧ s1 < ((K s2).2 : Int)) ∧ (∀ E1, E1 = pUp E s2 s1 s0 → (K x0).1 = 12 ∧ (-2147483648 ≤ x2 + 5 ∧ x2 + 5 < 2147483648) ∧ (0 : Int) ≤ F x0 67 ∧ (K (F x0 67)).1 = 20 ∧ ((0 : Int) ≤ x2 + 5 ∧ x2 + 5 < ((K (F x0 67)).2 : Int)) ∧ (∀ E2, E2 = pUp E1 (F x0 67) (x2 + 5) (F x0 23) → ((¬ (F x0 19) = 0 → (-2147483648 ≤ x2 + 6 ∧ x2 + 6 < 2147483648) ∧ ((0 : Int) ≤ x2 + 6 ∧ x2 + 6 < ((K (F x0 67)).2 : Int)) ∧ (∀ E3, E3 = pUp E2 (F x0 67) (x2 + 6) (F x0 23) → Q none (n, K, F, E3))) ∧ ((F x0 19) = 0 → ((¬ (F x0 16 = 1 ∧ F x0 17 = 294) → (-2147483648 ≤ x2 + 6 ∧ x2 + 6 < 2147483648) ∧ ((0 : Int) ≤ x2 + 6 ∧ x2 + 6 < ((K (F x0 67)).2 : Int)) ∧ (∀ E4, E4 = pUp E2 (F x0 67) (x2 + 6) (F x0 23) → Q none (n, K, F, E4))) ∧ (F x0 16 = 1 ∧ F x0 17 = 294 → PC l G 1 mX12_next (0, 0) [(2, x0)] (n, K, F, E2) (fun r μ => PW l G 9 mX12_readOrder bg 241 [(0, (2, x0)), (2, (0, x2))] (r.toList ++ []) μ Q)))))))) : PW l G 9 mX12_readOrder bg 207 [(0, (2, x0)), (2, (0, x2))] [(0, s0), (0, s1), (2, s2)] (n, K, F, E) Q := by
  obtain ⟨c1, h⟩ := h
  obtain ⟨c2, h⟩ := h
  obtain ⟨c3, h⟩ := h
  refine n_iast (q := 208) 119 rfl c1 c2 c3 ?_
  refine PW.nameE (fun E1 eE1 => ?_)
  replace h := h E1 eE1
  refine s_aload_n (q := 209) 120 0 rfl rfl ?_
  obtain ⟨c4, h⟩ := h
  refine n_getf (q := 212) (jj := 67) 121 12 67 rfl kX12_162 c4 ?_
  refine s_iload_n (q := 213) 122 1 rfl rfl ?_
  refine s_iconst (q := 214) 123 rfl ?_
  obtain ⟨c5, h⟩ := h
  refine n_iadd (q := 215) 124 rfl c5 ?_
  refine s_aload_n (q := 216) 125 0 rfl rfl ?_
  refine n_getf (q := 219) (jj := 23) 126 12 23 rfl kX12_289 c4 ?_
  obtain ⟨c6, h⟩ := h
  obtain ⟨c7, h⟩ := h
  obtain ⟨c8, h⟩ := h
  refine n_iast (q := 220) 127 rfl c6 c7 c8 ?_
  refine PW.nameE (fun E2 eE2 => ?_)
  replace h := h E2 eE2
  refine s_aload_n (q := 221) 128 0 rfl rfl ?_
  refine n_getf (q := 224) (jj := 19) 129 12 19 rfl kX12_252 c4 ?_
  refine s_if_ne (q := 227) (tgt := 246) 130 rfl rfl (fun hb => ?_) (fun hb => ?_)
  · skip
    have b9 := hb
    replace h := h.1 hb
    refine s_aload_n (q := 247) 140 0 rfl rfl ?_
    refine n_getf (q := 250) (jj := 67) 141 12 67 rfl kX12_162 c4 ?_
    refine s_iload_n (q := 251) 142 1 rfl rfl ?_
    refine s_bipush (q := 253) 143 rfl ?_
    obtain ⟨c10, h⟩ := h
    refine n_iadd (q := 254) 144 rfl c10 ?_
    refine s_aload_n (q := 255) 145 0 rfl rfl ?_
    refine n_getf (q := 258) (jj := 23) 146 12 23 rfl kX12_289 c4 ?_
    obtain ⟨c11, h⟩ := h
    refine n_iast (q := 259) 147 rfl c6 c7 c11 ?_
    refine PW.nameE (fun E3 eE3 => ?_)
    replace h := h E3 eE3
    exact s_vret 148 rfl rfl h
  · have hb := Classical.not_not.mp hb
    have b9 := hb
    replace h := h.2 hb
    refine s_aload_n (q := 228) 131 0 rfl rfl ?_
    refine s_ldc2 (q := 231) (x := 294) 132 rfl kX12_389 ?_
    refine n_callV (N := mX12_isWord) (as := [(1, 294)]) (st := []) (q := 234) (d' := 0) 133 rfl uX12_isWord kX12_310 rfl c4 (pX12_isWord c4 ?_)
    show PW l G 9 mX12_readOrder bg 234 [(0, (2, x0)), (2, (0, x2))] [(0, bI (F x0 16 = 1 ∧ F x0 17 = 294))] (n, K, F, E2) Q
    refine s_if_eq (q := 237) (tgt := 246) 134 rfl rfl (fun hb => ?_) (fun hb => ?_)
    · have hb := bI_f hb
      have b12 := hb
      replace h := h.1 hb
      refine s_aload_n (q := 247) 140 0 rfl rfl ?_
      refine n_getf (q := 250) (jj := 67) 141 12 67 rfl kX12_162 c4 ?_
      refine s_iload_n (q := 251) 142 1 rfl rfl ?_
      refine s_bipush (q := 253) 143 rfl ?_
      obtain ⟨c13, h⟩ := h
      refine n_iadd (q := 254) 144 rfl c13 ?_
      refine s_aload_n (q := 255) 145 0 rfl rfl ?_
      refine n_getf (q := 258) (jj := 23) 146 12 23 rfl kX12_289 c4 ?_
      obtain ⟨c14, h⟩ := h
      refine n_iast (q := 259) 147 rfl c6 c7 c14 ?_
      refine PW.nameE (fun E4 eE4 => ?_)
      replace h := h E4 eE4
      exact s_vret 148 rfl rfl h
    · have hb := bI_t hb
      have b12 := hb
      replace h := h.2 hb
      refine s_aload_n (q := 238) 135 0 rfl rfl ?_
      refine PW.pick [0, 1] rfl ?_
      exact n_callV (N := mX12_next) (as := []) (st := []) (q := 241) (d' := 1) 136 rfl uX12_next kX12_256 rfl c4 h
theorem vX12_readOrder_246 {l : Launch} {G : pG} {bg : Nat × Nat} {n : Nat} {K : Int → Nat × Nat} {F E : Int → Int → Int} {Q : Option pV → pM → Prop} (x0 x2 : Int) (h : (K x0).1 = 12 ∧ (-2147483648 ≤ x2 + 6 ∧ x2 + 6 < 2147483648) ∧ (0 : Int) ≤ F x0 67 ∧ (K (F x0 67)).1 = 20 ∧ ((0 : Int) ≤ x2 + 6 ∧ x2 + 6 < ((K (F x0 67)).2 : Int)) ∧ (∀ E1, E1 = pUp E (F x0 67) (x2 + 6) (F x0 23) → Q none (n, K, F, E1))) : PW l G 9 mX12_readOrder bg 246 [(0, (2, x0)), (2, (0, x2))] [] (n, K, F, E) Q := by
  refine s_aload_n (q := 247) 140 0 rfl rfl ?_
  obtain ⟨c1, h⟩ := h
  refine n_getf (q := 250) (jj := 67) 141 12 67 rfl kX12_162 c1 ?_
  refine s_iload_n (q := 251) 142 1 rfl rfl ?_
  refine s_bipush (q := 253) 143 rfl ?_
  obtain ⟨c2, h⟩ := h
  refine n_iadd (q := 254) 144 rfl c2 ?_
  refine s_aload_n (q := 255) 145 0 rfl rfl ?_
  refine n_getf (q := 258) (jj := 23) 146 12 23 rfl kX12_289 c1 ?_
  obtain ⟨c3, h⟩ := h
  obtain ⟨c4, h⟩ := h
  obtain ⟨c5, h⟩ := h
  refine n_iast (q := 259) 147 rfl c3 c4 c5 ?_
  refine PW.nameE (fun E1 eE1 => ?_)
  replace h := h E1 eE1
  exact s_vret 148 rfl rfl h
theorem vX12_sumOf_0 {l : Launch} {G : pG} {bg : Nat × Nat} {n : Nat} {K : Int → Nat × Nat} {F E : Int → Int → Int} {Q : Option pV → pM → Prop} (x0 x1 : Int) (h : (K x0).1 = 12 ∧ ((¬ (F x0 71) = 0 → Q (some (0, (-1))) (n, K, F, E)) ∧ ((F x0 71) = 0 → (K (F x0 67)).1 = 20 ∧ ((0 : Int) ≤ x1 ∧ x1 < ((K (F x0 67)).2 : Int)) ∧ (-2147483648 ≤ x1 + 1 ∧ x1 + 1 < 2147483648) ∧ ((0 : Int) ≤ x1 + 1 ∧ x1 + 1 < ((K (F x0 67)).2 : Int)) ∧ ((¬ (E (F x0 67) x1) = E (F x0 67) (x1 + 1) → (∀ F1, F1 = pUp F x0 20 1 → PC l G 2 mX12_reckonAll (0, 0) [(2, x0), (0, E (F x0 67) x1), (0, E (F x0 67) (x1 + 1))] (n, K, F1, E) (fun r μ => PW l G 3 mX12_sumOf bg 49 [(0, (2, x0))] (r.toList ++ []) μ Q))) ∧ ((E (F x0 67) x1) = E (F x0 67) (x1 + 1) → Q (some (0, (-1))) (n, K, F, E)))))) : PW l G 3 mX12_sumOf bg 0 [(0, (2, x0)), (1, (0, x1))] [] (n, K, F, E) Q := by
  refine s_aload_n (q := 1) 0 0 rfl rfl ?_
  obtain ⟨c1, h⟩ := h
  refine n_getf (q := 4) (jj := 71) 1 12 71 rfl kX12_586 c1 ?_
  refine s_if_ne (q := 7) (tgt := 24) 2 rfl rfl (fun hb => ?_) (fun hb => ?_)
  · skip
    have b2 := hb
    replace h := h.1 hb
    refine s_iconst (q := 25) 14 rfl ?_
    exact s_iret 15 rfl rfl h
  · have hb := Classical.not_not.mp hb
    have b2 := hb
    replace h := h.2 hb
    refine s_aload_n (q := 8) 3 0 rfl rfl ?_
    refine n_getf (q := 11) (jj := 67) 4 12 67 rfl kX12_162 c1 ?_
    refine s_iload_n (q := 12) 5 1 rfl rfl ?_
    obtain ⟨c3, h⟩ := h
    obtain ⟨c4, h⟩ := h
    refine n_iald (q := 13) 6 rfl c3 c4 ?_
    refine s_aload_n (q := 14) 7 0 rfl rfl ?_
    refine n_getf (q := 17) (jj := 67) 8 12 67 rfl kX12_162 c1 ?_
    refine s_iload_n (q := 18) 9 1 rfl rfl ?_
    refine s_iconst (q := 19) 10 rfl ?_
    obtain ⟨c5, h⟩ := h
    refine n_iadd (q := 20) 11 rfl c5 ?_
    obtain ⟨c6, h⟩ := h
    refine n_iald (q := 21) 12 rfl c3 c6 ?_
    refine s_icmp_ne (q := 24) (tgt := 26) 13 rfl rfl (fun hb => ?_) (fun hb => ?_)
    · skip
      have b7 := hb
      replace h := h.1 hb
      refine s_aload_n (q := 27) 16 0 rfl rfl ?_
      refine s_iconst (q := 28) 17 rfl ?_
      refine n_putf (q := 31) (jj := 20) 18 12 20 rfl kX12_329 c1 (Or.inr (Or.inr (Or.inl ⟨rfl, (by decide)⟩))) ?_
      refine PW.nameF (fun F1 eF1 => ?_)
      replace h := h F1 eF1
      refine s_aload_n (q := 32) 19 0 rfl rfl ?_
      refine s_aload_n (q := 33) 20 0 rfl rfl ?_
      refine n_getf (q := 36) (jj := 67) 21 12 67 rfl kX12_162 c1 ?_
      refine PW.top (b := F x0 67) (by exact (congrFun (congrFun eF1 _) _).trans (pUp_k (by decide))) ?_
      refine s_iload_n (q := 37) 22 1 rfl rfl ?_
      refine n_iald (q := 38) 23 rfl c3 c4 ?_
      refine s_aload_n (q := 39) 24 0 rfl rfl ?_
      refine n_getf (q := 42) (jj := 67) 25 12 67 rfl kX12_162 c1 ?_
      refine PW.top (b := F x0 67) (by exact (congrFun (congrFun eF1 _) _).trans (pUp_k (by decide))) ?_
      refine s_iload_n (q := 43) 26 1 rfl rfl ?_
      refine s_iconst (q := 44) 27 rfl ?_
      refine n_iadd (q := 45) 28 rfl c5 ?_
      refine n_iald (q := 46) 29 rfl c3 c6 ?_
      refine PW.pick [0] rfl ?_
      exact n_callV (N := mX12_reckonAll) (as := [(0, E (F x0 67) x1), (0, E (F x0 67) (x1 + 1))]) (st := []) (q := 49) (d' := 2) 30 rfl uX12_reckonAll kX12_422 rfl c1 h
    · have hb := Classical.not_not.mp hb
      have b7 := hb
      replace h := h.2 hb
      refine s_iconst (q := 25) 14 rfl ?_
      exact s_iret 15 rfl rfl h
theorem vX12_sumOf_49 {l : Launch} {G : pG} {bg : Nat × Nat} {n : Nat} {K : Int → Nat × Nat} {F E : Int → Int → Int} {Q : Option pV → pM → Prop} (x0 : Int) (h : (K x0).1 = 12 ∧ (∀ F1, F1 = pUp F x0 20 0 → (F x0 38 = 0 ∨ F x0 38 = 1) ∧ (∀ F2, F2 = pUp F1 x0 71 (F x0 38) → (-2147483648 ≤ F x0 39 ∧ F x0 39 < 2147483648) ∧ Q (some (0, F x0 39)) (n, K, F2, E)))) : PW l G 3 mX12_sumOf bg 49 [(0, (2, x0))] [] (n, K, F, E) Q := by
  refine s_aload_n (q := 50) 31 0 rfl rfl ?_
  refine s_iconst (q := 51) 32 rfl ?_
  obtain ⟨c1, h⟩ := h
  refine n_putf (q := 54) (jj := 20) 33 12 20 rfl kX12_329 c1 (Or.inr (Or.inr (Or.inl ⟨rfl, (by decide)⟩))) ?_
  refine PW.nameF (fun F1 eF1 => ?_)
  replace h := h F1 eF1
  refine s_aload_n (q := 55) 34 0 rfl rfl ?_
  refine s_aload_n (q := 56) 35 0 rfl rfl ?_
  refine n_getf (q := 59) (jj := 38) 36 12 38 rfl kX12_403 c1 ?_
  refine PW.top (b := F x0 38) (by exact (congrFun (congrFun eF1 _) _).trans (pUp_k (by decide))) ?_
  obtain ⟨c2, h⟩ := h
  refine n_putf (q := 62) (jj := 71) 37 12 71 rfl kX12_586 c1 (Or.inr (Or.inr (Or.inl ⟨rfl, c2⟩))) ?_
  refine PW.nameF (fun F2 eF2 => ?_)
  replace h := h F2 eF2
  refine s_aload_n (q := 63) 38 0 rfl rfl ?_
  refine n_getf (q := 66) (jj := 39) 39 12 39 rfl kX12_419 c1 ?_
  refine PW.top (b := F x0 39) (by refine (congrFun (congrFun eF2 _) _).trans ((pUp_k (by decide)).trans ?_); exact (congrFun (congrFun eF1 _) _).trans (pUp_k (by decide))) ?_
  obtain ⟨c3, h⟩ := h
  refine n_l2i (q := 67) 40 rfl c3 ?_
  exact s_iret 41 rfl rfl h
theorem vX12_act_0 {l : Launch} {G : pG} {bg : Nat × Nat} {n : Nat} {K : Int → Nat × Nat} {F E : Int → Int → Int} {Q : Option pV → pM → Prop} (x0 x1 x2 x3 x4 : Int) (h : (((x1 < 0 ∨ 2 < x1) → (K x0).1 = 12 ∧ PC l G 2 mX12_indexNow (0, 0) [(2, x0), (0, x2), (0, x3)] (n, K, F, E) (fun r μ => PW l G 8 mX12_act bg 56 [] (r.toList ++ []) μ Q)) ∧ (x1 = 0 → (K x0).1 = 12 ∧ PC l G 7 mX12_comeNow (0, 0) [(2, x0), (0, x2), (0, x3), (0, x4)] (n, K, F, E) (fun r μ => PW l G 8 mX12_act bg 36 [] (r.toList ++ []) μ Q)) ∧ (x1 = 1 → (K x0).1 = 12 ∧ PC l G 2 mX12_strikeNow (0, 0) [(2, x0), (0, x2)] (n, K, F, E) (fun r μ => PW l G 8 mX12_act bg 42 [] (r.toList ++ []) μ Q)) ∧ (x1 = 2 → (K x0).1 = 12 ∧ PC l G 2 mX12_windowNow (0, 0) [(2, x0), (0, x2), (0, x3)] (n, K, F, E) (fun r μ => PW l G 8 mX12_act bg 49 [] (r.toList ++ []) μ Q)))) : PW l G 8 mX12_act bg 0 [(0, (2, x0)), (1, (0, x1)), (2, (0, x2)), (3, (0, x3)), (4, (0, x4))] [] (n, K, F, E) Q := by
  refine s_iload_n (q := 1) 0 1 rfl rfl ?_
  obtain ⟨h0, h⟩ := h
  by_cases hsw : x1 < 0 ∨ 2 < x1
  · refine s_tableOut (tgt := 50) 1 rfl hsw rfl ?_
    replace h := h0 hsw
    refine s_aload_n (q := 51) 17 0 rfl rfl ?_
    refine s_iload_n (q := 52) 18 2 rfl rfl ?_
    refine s_iload_n (q := 53) 19 3 rfl rfl ?_
    obtain ⟨c1, h⟩ := h
    refine PW.pick [] rfl ?_
    exact n_callV (N := mX12_indexNow) (as := [(0, x2), (0, x3)]) (st := []) (q := 56) (d' := 2) 20 rfl uX12_indexNow kX12_545 rfl c1 h
  have gl : 0 ≤ x1 := by omega
  have gh : x1 ≤ 2 := by omega
  clear hsw
  obtain ⟨h0, h⟩ := h
  by_cases hs0 : x1 = 0
  · refine s_tableIn (tgt := 28) (off := 27) 1 rfl ⟨by rw [hs0]; decide, by rw [hs0]; decide⟩ (by rw [hs0]; rfl) rfl ?_
    replace h := h0 hs0
    refine s_aload_n (q := 29) 2 0 rfl rfl ?_
    refine s_iload_n (q := 30) 3 2 rfl rfl ?_
    refine s_iload_n (q := 31) 4 3 rfl rfl ?_
    refine s_iload (q := 33) 5 4 rfl rfl ?_
    obtain ⟨c2, h⟩ := h
    refine PW.pick [] rfl ?_
    exact n_callV (N := mX12_comeNow) (as := [(0, x2), (0, x3), (0, x4)]) (st := []) (q := 36) (d' := 7) 6 rfl uX12_comeNow kX12_242 rfl c2 h
  clear h0
  replace gl : 1 ≤ x1 := by clear h; omega
  clear hs0
  obtain ⟨h0, h⟩ := h
  by_cases hs0 : x1 = 1
  · refine s_tableIn (tgt := 37) (off := 36) 1 rfl ⟨by rw [hs0]; decide, by rw [hs0]; decide⟩ (by rw [hs0]; rfl) rfl ?_
    replace h := h0 hs0
    refine s_aload_n (q := 38) 8 0 rfl rfl ?_
    refine s_iload_n (q := 39) 9 2 rfl rfl ?_
    obtain ⟨c3, h⟩ := h
    refine PW.pick [] rfl ?_
    exact n_callV (N := mX12_strikeNow) (as := [(0, x2)]) (st := []) (q := 42) (d' := 2) 10 rfl uX12_strikeNow kX12_539 rfl c3 h
  clear h0
  replace gl : 2 ≤ x1 := by clear h; omega
  clear hs0
  have h0 := h
  by_cases hs0 : x1 = 2
  · refine s_tableIn (tgt := 43) (off := 42) 1 rfl ⟨by rw [hs0]; decide, by rw [hs0]; decide⟩ (by rw [hs0]; rfl) rfl ?_
    replace h := h0 hs0
    refine s_aload_n (q := 44) 12 0 rfl rfl ?_
    refine s_iload_n (q := 45) 13 2 rfl rfl ?_
    refine s_iload_n (q := 46) 14 3 rfl rfl ?_
    obtain ⟨c4, h⟩ := h
    refine PW.pick [] rfl ?_
    exact n_callV (N := mX12_windowNow) (as := [(0, x2), (0, x3)]) (st := []) (q := 49) (d' := 2) 15 rfl uX12_windowNow kX12_542 rfl c4 h
  clear h0
  replace gl : 3 ≤ x1 := by clear h; omega
  clear hs0
  clear h
  exfalso
  omega
theorem vX12_act_36 {l : Launch} {G : pG} {bg : Nat × Nat} {n : Nat} {K : Int → Nat × Nat} {F E : Int → Int → Int} {Q : Option pV → pM → Prop} (s0 : Int) (h : Q (some (0, s0)) (n, K, F, E)) : PW l G 8 mX12_act bg 36 [] [(0, s0)] (n, K, F, E) Q := by
  exact s_iret 7 rfl rfl h
theorem vX12_act_42 {l : Launch} {G : pG} {bg : Nat × Nat} {n : Nat} {K : Int → Nat × Nat} {F E : Int → Int → Int} {Q : Option pV → pM → Prop} (s0 : Int) (h : Q (some (0, s0)) (n, K, F, E)) : PW l G 8 mX12_act bg 42 [] [(0, s0)] (n, K, F, E) Q := by
  exact s_iret 11 rfl rfl h
theorem vX12_act_49 {l : Launch} {G : pG} {bg : Nat × Nat} {n : Nat} {K : Int → Nat × Nat} {F E : Int → Int → Int} {Q : Option pV → pM → Prop} (s0 : Int) (h : Q (some (0, s0)) (n, K, F, E)) : PW l G 8 mX12_act bg 49 [] [(0, s0)] (n, K, F, E) Q := by
  exact s_iret 16 rfl rfl h
theorem vX12_act_56 {l : Launch} {G : pG} {bg : Nat × Nat} {n : Nat} {K : Int → Nat × Nat} {F E : Int → Int → Int} {Q : Option pV → pM → Prop} (s0 : Int) (h : Q (some (0, s0)) (n, K, F, E)) : PW l G 8 mX12_act bg 56 [] [(0, s0)] (n, K, F, E) Q := by
  exact s_iret 21 rfl rfl h
theorem vX12_run_0 {l : Launch} {G : pG} {bg : Nat × Nat} {n : Nat} {K : Int → Nat × Nat} {F E : Int → Int → Int} {Q : Option pV → pM → Prop} (x0 x1 : Int) (h : (K x0).1 = 12 ∧ (K (F x0 3)).1 = 20 ∧ ((0 : Int) ≤ 7 ∧ 7 < ((K (F x0 3)).2 : Int)) ∧ (0 : Int) ≤ F x0 36 ∧ (K (F x0 36)).1 = 21 ∧ ((0 : Int) ≤ 1 ∧ 1 < ((K (F x0 36)).2 : Int)) ∧ (∀ E1, E1 = pUp E (F x0 36) 1 (E (F x0 3) 7) → ((0 : Int) ≤ 2 ∧ 2 < ((K (F x0 36)).2 : Int)) ∧ (∀ E2, E2 = pUp E1 (F x0 36) 2 (F x0 68) → ((0 : Int) ≤ 3 ∧ 3 < ((K (F x0 36)).2 : Int)) ∧ (∀ E3, E3 = pUp E2 (F x0 36) 3 (F x0 69) → ((0 : Int) ≤ 8 ∧ 8 < ((K (F x0 3)).2 : Int)) ∧ ((0 : Int) ≤ 4 ∧ 4 < ((K (F x0 36)).2 : Int)) ∧ (∀ E4, E4 = pUp E3 (F x0 36) 4 (E (F x0 3) 8) → ((0 : Int) ≤ 6 ∧ 6 < ((K (F x0 3)).2 : Int)) ∧ ((0 : Int) ≤ 5 ∧ 5 < ((K (F x0 36)).2 : Int)) ∧ (∀ E5, E5 = pUp E4 (F x0 36) 5 (E (F x0 3) 6) → (∀ F6, F6 = pUp F x0 71 0 → (-2147483648 ≤ x1 + 5 ∧ x1 + 5 < 2147483648) ∧ (K (F x0 67)).1 = 20 ∧ ((0 : Int) ≤ x1 + 5 ∧ x1 + 5 < ((K (F x0 67)).2 : Int)) ∧ (-2147483648 ≤ x1 + 6 ∧ x1 + 6 < 2147483648) ∧ ((0 : Int) ≤ x1 + 6 ∧ x1 + 6 < ((K (F x0 67)).2 : Int)) ∧ ((E (F x0 67) (x1 + 6) ≤ E (F x0 67) (x1 + 5) → (-2147483648 ≤ x1 + 1 ∧ x1 + 1 < 2147483648) ∧ PC l G 3 mX12_sumOf (0, 0) [(2, x0), (0, x1 + 1)] (n, K, F6, E5) (fun r μ => PW l G 9 mX12_run bg 117 [(0, (2, x0)), (1, (0, x1))] (r.toList ++ []) μ Q)) ∧ (¬ (E (F x0 67) (x1 + 6) ≤ E (F x0 67) (x1 + 5)) → PC l G 3 mX12_sumOf (0, 0) [(2, x0), (0, x1 + 5)] (n, K, F6, E5) (fun r μ => PW l G 9 mX12_run bg 96 [(0, (2, x0)), (1, (0, x1))] (r.toList ++ []) μ Q)))))))))) : PW l G 9 mX12_run bg 0 [(0, (2, x0)), (1, (0, x1))] [] (n, K, F, E) Q := by
  refine s_aload_n (q := 1) 0 0 rfl rfl ?_
  obtain ⟨c1, h⟩ := h
  refine n_getf (q := 4) (jj := 36) 1 12 36 rfl kX12_100 c1 ?_
  refine s_iconst (q := 5) 2 rfl ?_
  refine s_aload_n (q := 6) 3 0 rfl rfl ?_
  refine n_getf (q := 9) (jj := 3) 4 12 3 rfl kX12_13 c1 ?_
  refine s_bipush (q := 11) 5 rfl ?_
  obtain ⟨c2, h⟩ := h
  obtain ⟨c3, h⟩ := h
  refine n_iald (q := 12) 6 rfl c2 c3 ?_
  refine s_i2l (q := 13) 7 rfl ?_
  obtain ⟨c4, h⟩ := h
  obtain ⟨c5, h⟩ := h
  obtain ⟨c6, h⟩ := h
  refine n_last (q := 14) 8 rfl c4 c5 c6 ?_
  refine PW.nameE (fun E1 eE1 => ?_)
  replace h := h E1 eE1
  refine s_aload_n (q := 15) 9 0 rfl rfl ?_
  refine n_getf (q := 18) (jj := 36) 10 12 36 rfl kX12_100 c1 ?_
  refine s_iconst (q := 19) 11 rfl ?_
  refine s_aload_n (q := 20) 12 0 rfl rfl ?_
  refine n_getf (q := 23) (jj := 68) 13 12 68 rfl kX12_589 c1 ?_
  refine s_i2l (q := 24) 14 rfl ?_
  obtain ⟨c7, h⟩ := h
  refine n_last (q := 25) 15 rfl c4 c5 c7 ?_
  refine PW.nameE (fun E2 eE2 => ?_)
  replace h := h E2 eE2
  refine s_aload_n (q := 26) 16 0 rfl rfl ?_
  refine n_getf (q := 29) (jj := 36) 17 12 36 rfl kX12_100 c1 ?_
  refine s_iconst (q := 30) 18 rfl ?_
  refine s_aload_n (q := 31) 19 0 rfl rfl ?_
  refine n_getf (q := 34) (jj := 69) 20 12 69 rfl kX12_592 c1 ?_
  refine s_i2l (q := 35) 21 rfl ?_
  obtain ⟨c8, h⟩ := h
  refine n_last (q := 36) 22 rfl c4 c5 c8 ?_
  refine PW.nameE (fun E3 eE3 => ?_)
  replace h := h E3 eE3
  refine s_aload_n (q := 37) 23 0 rfl rfl ?_
  refine n_getf (q := 40) (jj := 36) 24 12 36 rfl kX12_100 c1 ?_
  refine s_iconst (q := 41) 25 rfl ?_
  refine s_aload_n (q := 42) 26 0 rfl rfl ?_
  refine n_getf (q := 45) (jj := 3) 27 12 3 rfl kX12_13 c1 ?_
  refine s_bipush (q := 47) 28 rfl ?_
  obtain ⟨c9, h⟩ := h
  refine n_iald (q := 48) 29 rfl c2 c9 ?_
  refine PW.top (b := E (F x0 3) 8) (by refine (congrFun (congrFun eE3 _) _).trans ((pUp_K c5 c2 (by decide)).trans ?_); refine (congrFun (congrFun eE2 _) _).trans ((pUp_K c5 c2 (by decide)).trans ?_); exact (congrFun (congrFun eE1 _) _).trans (pUp_K c5 c2 (by decide))) ?_
  refine s_i2l (q := 49) 30 rfl ?_
  obtain ⟨c10, h⟩ := h
  refine n_last (q := 50) 31 rfl c4 c5 c10 ?_
  refine PW.nameE (fun E4 eE4 => ?_)
  replace h := h E4 eE4
  refine s_aload_n (q := 51) 32 0 rfl rfl ?_
  refine n_getf (q := 54) (jj := 36) 33 12 36 rfl kX12_100 c1 ?_
  refine s_iconst (q := 55) 34 rfl ?_
  refine s_aload_n (q := 56) 35 0 rfl rfl ?_
  refine n_getf (q := 59) (jj := 3) 36 12 3 rfl kX12_13 c1 ?_
  refine s_bipush (q := 61) 37 rfl ?_
  obtain ⟨c11, h⟩ := h
  refine n_iald (q := 62) 38 rfl c2 c11 ?_
  refine PW.top (b := E (F x0 3) 6) (by refine (congrFun (congrFun eE4 _) _).trans ((pUp_K c5 c2 (by decide)).trans ?_); refine (congrFun (congrFun eE3 _) _).trans ((pUp_K c5 c2 (by decide)).trans ?_); refine (congrFun (congrFun eE2 _) _).trans ((pUp_K c5 c2 (by decide)).trans ?_); exact (congrFun (congrFun eE1 _) _).trans (pUp_K c5 c2 (by decide))) ?_
  refine s_i2l (q := 63) 39 rfl ?_
  obtain ⟨c12, h⟩ := h
  refine n_last (q := 64) 40 rfl c4 c5 c12 ?_
  refine PW.nameE (fun E5 eE5 => ?_)
  replace h := h E5 eE5
  refine s_aload_n (q := 65) 41 0 rfl rfl ?_
  refine s_iconst (q := 66) 42 rfl ?_
  refine n_putf (q := 69) (jj := 71) 43 12 71 rfl kX12_586 c1 (Or.inr (Or.inr (Or.inl ⟨rfl, (by decide)⟩))) ?_
  refine PW.nameF (fun F6 eF6 => ?_)
  replace h := h F6 eF6
  refine s_aload_n (q := 70) 44 0 rfl rfl ?_
  refine n_getf (q := 73) (jj := 67) 45 12 67 rfl kX12_162 c1 ?_
  refine PW.top (b := F x0 67) (by exact (congrFun (congrFun eF6 _) _).trans (pUp_k (by decide))) ?_
  refine s_iload_n (q := 74) 46 1 rfl rfl ?_
  refine s_iconst (q := 75) 47 rfl ?_
  obtain ⟨c13, h⟩ := h
  refine n_iadd (q := 76) 48 rfl c13 ?_
  obtain ⟨c14, h⟩ := h
  obtain ⟨c15, h⟩ := h
  refine n_iald (q := 77) 49 rfl c14 c15 ?_
  refine PW.top (b := E (F x0 67) (x1 + 5)) (by refine (congrFun (congrFun eE5 _) _).trans ((pUp_K c5 c14 (by decide)).trans ?_); refine (congrFun (congrFun eE4 _) _).trans ((pUp_K c5 c14 (by decide)).trans ?_); refine (congrFun (congrFun eE3 _) _).trans ((pUp_K c5 c14 (by decide)).trans ?_); refine (congrFun (congrFun eE2 _) _).trans ((pUp_K c5 c14 (by decide)).trans ?_); exact (congrFun (congrFun eE1 _) _).trans (pUp_K c5 c14 (by decide))) ?_
  refine s_aload_n (q := 78) 50 0 rfl rfl ?_
  refine n_getf (q := 81) (jj := 67) 51 12 67 rfl kX12_162 c1 ?_
  refine PW.top (b := F x0 67) (by exact (congrFun (congrFun eF6 _) _).trans (pUp_k (by decide))) ?_
  refine s_iload_n (q := 82) 52 1 rfl rfl ?_
  refine s_bipush (q := 84) 53 rfl ?_
  obtain ⟨c16, h⟩ := h
  refine n_iadd (q := 85) 54 rfl c16 ?_
  obtain ⟨c17, h⟩ := h
  refine n_iald (q := 86) 55 rfl c14 c17 ?_
  refine PW.top (b := E (F x0 67) (x1 + 6)) (by refine (congrFun (congrFun eE5 _) _).trans ((pUp_K c5 c14 (by decide)).trans ?_); refine (congrFun (congrFun eE4 _) _).trans ((pUp_K c5 c14 (by decide)).trans ?_); refine (congrFun (congrFun eE3 _) _).trans ((pUp_K c5 c14 (by decide)).trans ?_); refine (congrFun (congrFun eE2 _) _).trans ((pUp_K c5 c14 (by decide)).trans ?_); exact (congrFun (congrFun eE1 _) _).trans (pUp_K c5 c14 (by decide))) ?_
  refine s_icmp_ge (q := 89) (tgt := 110) 56 rfl rfl (fun hb => ?_) (fun hb => ?_)
  · skip
    have b18 := hb
    replace h := h.1 hb
    refine s_aload_n (q := 111) 70 0 rfl rfl ?_
    refine s_iload_n (q := 112) 71 1 rfl rfl ?_
    refine s_iconst (q := 113) 72 rfl ?_
    obtain ⟨c19, h⟩ := h
    refine n_iadd (q := 114) 73 rfl c19 ?_
    refine PW.pick [0, 1] rfl ?_
    exact n_callV (N := mX12_sumOf) (as := [(0, x1 + 1)]) (st := []) (q := 117) (d' := 3) 74 rfl uX12_sumOf kX12_595 rfl c1 h
  · skip
    have b18 := hb
    replace h := h.2 hb
    refine s_aload_n (q := 90) 57 0 rfl rfl ?_
    refine s_iload_n (q := 91) 58 1 rfl rfl ?_
    refine s_iconst (q := 92) 59 rfl ?_
    refine n_iadd (q := 93) 60 rfl c13 ?_
    refine PW.pick [0, 1] rfl ?_
    exact n_callV (N := mX12_sumOf) (as := [(0, x1 + 5)]) (st := []) (q := 96) (d' := 3) 61 rfl uX12_sumOf kX12_595 rfl c1 h
theorem vX12_run_96 {l : Launch} {G : pG} {bg : Nat × Nat} {n : Nat} {K : Int → Nat × Nat} {F E : Int → Int → Int} {Q : Option pV → pM → Prop} (x0 x1 s0 : Int) (h : (K x0).1 = 12 ∧ ((¬ (F x0 71) = 0 → Q (some (0, 0)) (n, K, F, E)) ∧ ((F x0 71) = 0 → ((¬ s0 = 0 → (-2147483648 ≤ x1 + 1 ∧ x1 + 1 < 2147483648) ∧ PC l G 3 mX12_sumOf (0, 0) [(2, x0), (0, x1 + 1)] (n, K, F, E) (fun r μ => PW l G 9 mX12_run bg 117 [(0, (2, x0)), (1, (0, x1))] (r.toList ++ []) μ Q)) ∧ (s0 = 0 → Q (some (0, 0)) (n, K, F, E)))))) : PW l G 9 mX12_run bg 96 [(0, (2, x0)), (1, (0, x1))] [(0, s0)] (n, K, F, E) Q := by
  refine s_istore_n (q := 97) (lv' := [(2, (0, s0)), (0, (2, x0)), (1, (0, x1))]) 62 rfl rfl ?_
  refine s_aload_n (q := 98) 63 1 rfl rfl ?_
  obtain ⟨c1, h⟩ := h
  refine n_getf (q := 101) (jj := 71) 64 12 71 rfl kX12_586 c1 ?_
  refine s_if_ne (q := 104) (tgt := 108) 65 rfl rfl (fun hb => ?_) (fun hb => ?_)
  · skip
    have b2 := hb
    replace h := h.1 hb
    refine s_iconst (q := 109) 68 rfl ?_
    exact s_iret 69 rfl rfl h
  · have hb := Classical.not_not.mp hb
    have b2 := hb
    replace h := h.2 hb
    refine s_iload_n (q := 105) 66 0 rfl rfl ?_
    refine s_if_ne (q := 108) (tgt := 110) 67 rfl rfl (fun hb => ?_) (fun hb => ?_)
    · skip
      have b3 := hb
      replace h := h.1 hb
      refine s_aload_n (q := 111) 70 1 rfl rfl ?_
      refine s_iload_n (q := 112) 71 2 rfl rfl ?_
      refine s_iconst (q := 113) 72 rfl ?_
      obtain ⟨c4, h⟩ := h
      refine n_iadd (q := 114) 73 rfl c4 ?_
      refine PW.pick [1, 2] rfl ?_
      exact n_callV (N := mX12_sumOf) (as := [(0, x1 + 1)]) (st := []) (q := 117) (d' := 3) 74 rfl uX12_sumOf kX12_595 rfl c1 h
    · have hb := Classical.not_not.mp hb
      have b3 := hb
      replace h := h.2 hb
      refine s_iconst (q := 109) 68 rfl ?_
      exact s_iret 69 rfl rfl h
theorem vX12_run_117 {l : Launch} {G : pG} {bg : Nat × Nat} {n : Nat} {K : Int → Nat × Nat} {F E : Int → Int → Int} {Q : Option pV → pM → Prop} (x0 x1 s0 : Int) (h : (-2147483648 ≤ x1 + 3 ∧ x1 + 3 < 2147483648) ∧ (K x0).1 = 12 ∧ PC l G 3 mX12_sumOf (0, 0) [(2, x0), (0, x1 + 3)] (n, K, F, E) (fun r μ => PW l G 9 mX12_run bg 125 [(0, (2, x0)), (1, (0, x1)), (2, (0, s0))] (r.toList ++ []) μ Q)) : PW l G 9 mX12_run bg 117 [(0, (2, x0)), (1, (0, x1))] [(0, s0)] (n, K, F, E) Q := by
  refine s_istore_n (q := 118) (lv' := [(2, (0, s0)), (0, (2, x0)), (1, (0, x1))]) 75 rfl rfl ?_
  refine s_aload_n (q := 119) 76 1 rfl rfl ?_
  refine s_iload_n (q := 120) 77 2 rfl rfl ?_
  refine s_iconst (q := 121) 78 rfl ?_
  obtain ⟨c1, h⟩ := h
  refine n_iadd (q := 122) 79 rfl c1 ?_
  obtain ⟨c2, h⟩ := h
  refine PW.pick [1, 2, 0] rfl ?_
  exact n_callV (N := mX12_sumOf) (as := [(0, x1 + 3)]) (st := []) (q := 125) (d' := 3) 80 rfl uX12_sumOf kX12_595 rfl c2 h
theorem vX12_run_125 {l : Launch} {G : pG} {bg : Nat × Nat} {n : Nat} {K : Int → Nat × Nat} {F E : Int → Int → Int} {Q : Option pV → pM → Prop} (x0 x1 x2 s0 : Int) (h : (-2147483648 ≤ x1 + 8 ∧ x1 + 8 < 2147483648) ∧ (K x0).1 = 12 ∧ PC l G 3 mX12_sumOf (0, 0) [(2, x0), (0, x1 + 8)] (n, K, F, E) (fun r μ => PW l G 9 mX12_run bg 134 [(0, (2, x0)), (1, (0, x1)), (2, (0, x2)), (3, (0, s0))] (r.toList ++ []) μ Q)) : PW l G 9 mX12_run bg 125 [(0, (2, x0)), (1, (0, x1)), (2, (0, x2))] [(0, s0)] (n, K, F, E) Q := by
  refine s_istore_n (q := 126) (lv' := [(3, (0, s0)), (0, (2, x0)), (1, (0, x1)), (2, (0, x2))]) 81 rfl rfl ?_
  refine s_aload_n (q := 127) 82 1 rfl rfl ?_
  refine s_iload_n (q := 128) 83 2 rfl rfl ?_
  refine s_bipush (q := 130) 84 rfl ?_
  obtain ⟨c1, h⟩ := h
  refine n_iadd (q := 131) 85 rfl c1 ?_
  obtain ⟨c2, h⟩ := h
  refine PW.pick [1, 2, 3, 0] rfl ?_
  exact n_callV (N := mX12_sumOf) (as := [(0, x1 + 8)]) (st := []) (q := 134) (d' := 3) 86 rfl uX12_sumOf kX12_595 rfl c2 h
theorem vX12_run_134 {l : Launch} {G : pG} {bg : Nat × Nat} {n : Nat} {K : Int → Nat × Nat} {F E : Int → Int → Int} {Q : Option pV → pM → Prop} (x0 x1 x2 x3 s0 : Int) (h : (K x0).1 = 12 ∧ ((F x0 71 = 0 → (K (F x0 67)).1 = 20 ∧ ((0 : Int) ≤ x1 ∧ x1 < ((K (F x0 67)).2 : Int)) ∧ PC l G 8 mX12_act (0, 0) [(2, x0), (0, E (F x0 67) x1), (0, x2), (0, x3), (0, s0)] (n, K, F, E) (fun r μ => PW l G 9 mX12_run bg 160 [(0, (2, x0)), (1, (0, x1))] (r.toList ++ []) μ Q)) ∧ (¬ (F x0 71 = 0) → Q (some (0, (-3))) (n, K, F, E)))) : PW l G 9 mX12_run bg 134 [(0, (2, x0)), (1, (0, x1)), (2, (0, x2)), (3, (0, x3))] [(0, s0)] (n, K, F, E) Q := by
  refine s_istore (q := 136) (lv' := [(4, (0, s0)), (0, (2, x0)), (1, (0, x1)), (2, (0, x2)), (3, (0, x3))]) 87 rfl rfl ?_
  refine s_aload_n (q := 137) 88 1 rfl rfl ?_
  obtain ⟨c1, h⟩ := h
  refine n_getf (q := 140) (jj := 71) 89 12 71 rfl kX12_586 c1 ?_
  refine s_if_eq (q := 143) (tgt := 146) 90 rfl rfl (fun hb => ?_) (fun hb => ?_)
  · skip
    have b2 := hb
    replace h := h.1 hb
    refine s_aload_n (q := 147) 93 1 rfl rfl ?_
    refine s_aload_n (q := 148) 94 1 rfl rfl ?_
    refine n_getf (q := 151) (jj := 67) 95 12 67 rfl kX12_162 c1 ?_
    refine s_iload_n (q := 152) 96 2 rfl rfl ?_
    obtain ⟨c3, h⟩ := h
    obtain ⟨c4, h⟩ := h
    refine n_iald (q := 153) 97 rfl c3 c4 ?_
    refine s_iload_n (q := 154) 98 3 rfl rfl ?_
    refine s_iload_n (q := 155) 99 4 rfl rfl ?_
    refine s_iload (q := 157) 100 0 rfl rfl ?_
    refine PW.pick [1, 2] rfl ?_
    exact n_callV (N := mX12_act) (as := [(0, E (F x0 67) x1), (0, x2), (0, x3), (0, s0)]) (st := []) (q := 160) (d' := 8) 101 rfl uX12_act kX12_598 rfl c1 h
  · skip
    have b2 := hb
    replace h := h.2 hb
    refine s_bipush (q := 145) 91 rfl ?_
    exact s_iret 92 rfl rfl h
theorem vX12_run_160 {l : Launch} {G : pG} {bg : Nat × Nat} {n : Nat} {K : Int → Nat × Nat} {F E : Int → Int → Int} {Q : Option pV → pM → Prop} (x0 x1 s0 : Int) (h : ((0 ≤ s0 → (K x0).1 = 12 ∧ (K (F x0 67)).1 = 20 ∧ ((0 : Int) ≤ x1 ∧ x1 < ((K (F x0 67)).2 : Int)) ∧ ((¬ (E (F x0 67) x1) = 0 → (∀ F1, F1 = pUp F x0 69 (F x0 69) → (-2147483648 ≤ (F x0 68) + 1 ∧ (F x0 68) + 1 < 2147483648) ∧ (∀ F2, F2 = pUp F1 x0 68 ((F x0 68) + 1) → Q (some (0, 0)) (n, K, F2, E)))) ∧ ((E (F x0 67) x1) = 0 → (∀ F3, F3 = pUp F x0 69 s0 → (-2147483648 ≤ (F x0 68) + 1 ∧ (F x0 68) + 1 < 2147483648) ∧ (∀ F4, F4 = pUp F3 x0 68 ((F x0 68) + 1) → Q (some (0, 0)) (n, K, F4, E)))))) ∧ (¬ (0 ≤ s0) → Q (some (0, (-3))) (n, K, F, E)))) : PW l G 9 mX12_run bg 160 [(0, (2, x0)), (1, (0, x1))] [(0, s0)] (n, K, F, E) Q := by
  refine s_istore (q := 162) (lv' := [(5, (0, s0)), (0, (2, x0)), (1, (0, x1))]) 102 rfl rfl ?_
  refine s_iload (q := 164) 103 0 rfl rfl ?_
  refine s_if_ge (q := 167) (tgt := 170) 104 rfl rfl (fun hb => ?_) (fun hb => ?_)
  · skip
    have b1 := hb
    replace h := h.1 hb
    refine s_aload_n (q := 171) 107 1 rfl rfl ?_
    refine s_aload_n (q := 172) 108 1 rfl rfl ?_
    obtain ⟨c2, h⟩ := h
    refine n_getf (q := 175) (jj := 67) 109 12 67 rfl kX12_162 c2 ?_
    refine s_iload_n (q := 176) 110 2 rfl rfl ?_
    obtain ⟨c3, h⟩ := h
    obtain ⟨c4, h⟩ := h
    refine n_iald (q := 177) 111 rfl c3 c4 ?_
    refine s_if_ne (q := 180) (tgt := 185) 112 rfl rfl (fun hb => ?_) (fun hb => ?_)
    · skip
      have b5 := hb
      replace h := h.1 hb
      refine s_aload_n (q := 186) 115 1 rfl rfl ?_
      refine n_getf (q := 189) (jj := 69) 116 12 69 rfl kX12_592 c2 ?_
      refine n_putf (q := 192) (jj := 69) 117 12 69 rfl kX12_592 c2 (Or.inl rfl) ?_
      refine PW.nameF (fun F1 eF1 => ?_)
      replace h := h F1 eF1
      refine s_aload_n (q := 193) 118 1 rfl rfl ?_
      refine s_dup (q := 194) 119 rfl ?_
      refine n_getf (q := 197) (jj := 68) 120 12 68 rfl kX12_589 c2 ?_
      refine PW.top (b := F x0 68) (by exact (congrFun (congrFun eF1 _) _).trans (pUp_k (by decide))) ?_
      refine s_iconst (q := 198) 121 rfl ?_
      obtain ⟨c6, h⟩ := h
      refine n_iadd (q := 199) 122 rfl c6 ?_
      refine n_putf (q := 202) (jj := 68) 123 12 68 rfl kX12_589 c2 (Or.inl rfl) ?_
      refine PW.nameF (fun F2 eF2 => ?_)
      replace h := h F2 eF2
      refine s_iconst (q := 203) 124 rfl ?_
      exact s_iret 125 rfl rfl h
    · have hb := Classical.not_not.mp hb
      have b5 := hb
      replace h := h.2 hb
      refine s_iload (q := 182) 113 0 rfl rfl ?_
      refine s_goto (tgt := 189) 114 rfl rfl ?_
      refine n_putf (q := 192) (jj := 69) 117 12 69 rfl kX12_592 c2 (Or.inl rfl) ?_
      refine PW.nameF (fun F3 eF3 => ?_)
      replace h := h F3 eF3
      refine s_aload_n (q := 193) 118 1 rfl rfl ?_
      refine s_dup (q := 194) 119 rfl ?_
      refine n_getf (q := 197) (jj := 68) 120 12 68 rfl kX12_589 c2 ?_
      refine PW.top (b := F x0 68) (by exact (congrFun (congrFun eF3 _) _).trans (pUp_k (by decide))) ?_
      refine s_iconst (q := 198) 121 rfl ?_
      obtain ⟨c7, h⟩ := h
      refine n_iadd (q := 199) 122 rfl c7 ?_
      refine n_putf (q := 202) (jj := 68) 123 12 68 rfl kX12_589 c2 (Or.inl rfl) ?_
      refine PW.nameF (fun F4 eF4 => ?_)
      replace h := h F4 eF4
      refine s_iconst (q := 203) 124 rfl ?_
      exact s_iret 125 rfl rfl h
  · skip
    have b1 := hb
    replace h := h.2 hb
    refine s_bipush (q := 169) 105 rfl ?_
    exact s_iret 106 rfl rfl h
theorem vX12_orders_0 {l : Launch} {G : pG} {bg : Nat × Nat} {n : Nat} {K : Int → Nat × Nat} {F E : Int → Int → Int} {Q : Option pV → pM → Prop} (x0 : Int) (h : (K x0).1 = 12 ∧ (∀ F1, F1 = pUp F x0 0 0 → (∀ F2, F2 = pUp F1 x0 70 (-1) → PC l G 3 mX12_beginText (0, 0) [(2, x0), (0, 1)] (n, K, F2, E) (fun r μ => PW l G 10 mX12_orders bg 15 [(0, (2, x0))] (r.toList ++ []) μ Q)))) : PW l G 10 mX12_orders bg 0 [(0, (2, x0))] [] (n, K, F, E) Q := by
  refine s_aload_n (q := 1) 0 0 rfl rfl ?_
  refine s_iconst (q := 2) 1 rfl ?_
  obtain ⟨c1, h⟩ := h
  refine n_putf (q := 5) (jj := 0) 2 12 0 rfl kX12_174 c1 (Or.inl rfl) ?_
  refine PW.nameF (fun F1 eF1 => ?_)
  replace h := h F1 eF1
  refine s_aload_n (q := 6) 3 0 rfl rfl ?_
  refine s_iconst (q := 7) 4 rfl ?_
  refine n_putf (q := 10) (jj := 70) 5 12 70 rfl kX12_165 c1 (Or.inl rfl) ?_
  refine PW.nameF (fun F2 eF2 => ?_)
  replace h := h F2 eF2
  refine s_aload_n (q := 11) 6 0 rfl rfl ?_
  refine s_iconst (q := 12) 7 rfl ?_
  refine PW.pick [0] rfl ?_
  exact n_callV (N := mX12_beginText) (as := [(0, 1)]) (st := []) (q := 15) (d' := 3) 8 rfl uX12_beginText kX12_391 rfl c1 h
theorem vX12_orders_15 {l : Launch} {G : pG} {bg : Nat × Nat} {n : Nat} {K : Int → Nat × Nat} {F E : Int → Int → Int} {Q : Option pV → pM → Prop} (x0 : Int) (h : (K x0).1 = 12 ∧ PC l G 9 mX12_readOrder (0, 0) [(2, x0)] (n, K, F, E) (fun r μ => PW l G 10 mX12_orders bg 19 [(0, (2, x0))] (r.toList ++ []) μ Q)) : PW l G 10 mX12_orders bg 15 [(0, (2, x0))] [] (n, K, F, E) Q := by
  refine s_aload_n (q := 16) 9 0 rfl rfl ?_
  obtain ⟨c1, h⟩ := h
  refine PW.pick [0] rfl ?_
  exact n_callV (N := mX12_readOrder) (as := []) (st := []) (q := 19) (d' := 9) 10 rfl uX12_readOrder kX12_602 rfl c1 h
theorem vX12_orders_19 {l : Launch} {G : pG} {bg : Nat × Nat} {n : Nat} {K : Int → Nat × Nat} {F E : Int → Int → Int} {Q : Option pV → pM → Prop} (x0 : Int) (h : (K x0).1 = 12 ∧ ((¬ (F x0 19) = 0 → PC l G 3 mX12_endText (0, 0) [(2, x0)] (n, K, F, E) (fun r μ => PW l G 10 mX12_orders bg 50 [(0, (2, x0))] (r.toList ++ []) μ Q)) ∧ ((F x0 19) = 0 → ((¬ (F x0 16 = 3 ∧ F x0 17 = 59) → PC l G 3 mX12_endText (0, 0) [(2, x0)] (n, K, F, E) (fun r μ => PW l G 10 mX12_orders bg 50 [(0, (2, x0))] (r.toList ++ []) μ Q)) ∧ (F x0 16 = 3 ∧ F x0 17 = 59 → PC l G 1 mX12_next (0, 0) [(2, x0)] (n, K, F, E) (fun r μ => PW l G 10 mX12_orders bg 39 [(0, (2, x0))] (r.toList ++ []) μ Q)))))) : PW l G 10 mX12_orders bg 19 [(0, (2, x0))] [] (n, K, F, E) Q := by
  refine s_aload_n (q := 20) 11 0 rfl rfl ?_
  obtain ⟨c1, h⟩ := h
  refine n_getf (q := 23) (jj := 19) 12 12 19 rfl kX12_252 c1 ?_
  refine s_if_ne (q := 26) (tgt := 46) 13 rfl rfl (fun hb => ?_) (fun hb => ?_)
  · skip
    have b2 := hb
    replace h := h.1 hb
    refine s_aload_n (q := 47) 23 0 rfl rfl ?_
    refine PW.pick [0] rfl ?_
    exact n_callV (N := mX12_endText) (as := []) (st := []) (q := 50) (d' := 3) 24 rfl uX12_endText kX12_397 rfl c1 h
  · have hb := Classical.not_not.mp hb
    have b2 := hb
    replace h := h.2 hb
    refine s_aload_n (q := 27) 14 0 rfl rfl ?_
    refine s_bipush (q := 29) 15 rfl ?_
    refine n_callV (N := mX12_isSign) (as := [(0, 59)]) (st := []) (q := 32) (d' := 0) 16 rfl uX12_isSign kX12_323 rfl c1 (pX12_isSign c1 ?_)
    show PW l G 10 mX12_orders bg 32 [(0, (2, x0))] [(0, bI (F x0 16 = 3 ∧ F x0 17 = 59))] (n, K, F, E) Q
    refine s_if_eq (q := 35) (tgt := 46) 17 rfl rfl (fun hb => ?_) (fun hb => ?_)
    · have hb := bI_f hb
      have b3 := hb
      replace h := h.1 hb
      refine s_aload_n (q := 47) 23 0 rfl rfl ?_
      refine PW.pick [0] rfl ?_
      exact n_callV (N := mX12_endText) (as := []) (st := []) (q := 50) (d' := 3) 24 rfl uX12_endText kX12_397 rfl c1 h
    · have hb := bI_t hb
      have b3 := hb
      replace h := h.2 hb
      refine s_aload_n (q := 36) 18 0 rfl rfl ?_
      refine PW.pick [0] rfl ?_
      exact n_callV (N := mX12_next) (as := []) (st := []) (q := 39) (d' := 1) 19 rfl uX12_next kX12_256 rfl c1 h
theorem vX12_orders_39 {l : Launch} {G : pG} {bg : Nat × Nat} {n : Nat} {K : Int → Nat × Nat} {F E : Int → Int → Int} {Q : Option pV → pM → Prop} (x0 : Int) (h : (K x0).1 = 12 ∧ PC l G 9 mX12_readOrder (0, 0) [(2, x0)] (n, K, F, E) (fun r μ => PW l G 10 mX12_orders bg 43 [(0, (2, x0))] (r.toList ++ []) μ Q)) : PW l G 10 mX12_orders bg 39 [(0, (2, x0))] [] (n, K, F, E) Q := by
  refine s_aload_n (q := 40) 20 0 rfl rfl ?_
  obtain ⟨c1, h⟩ := h
  refine PW.pick [0] rfl ?_
  exact n_callV (N := mX12_readOrder) (as := []) (st := []) (q := 43) (d' := 9) 21 rfl uX12_readOrder kX12_602 rfl c1 h
theorem vX12_orders_50 {l : Launch} {G : pG} {bg : Nat × Nat} {n : Nat} {K : Int → Nat × Nat} {F E : Int → Int → Int} {Q : Option pV → pM → Prop} (x0 : Int) (h : (K x0).1 = 12 ∧ ((F x0 19 = 0 → PC l G 1 mX12_keepOrders (0, 0) [(2, x0)] (n, K, F, E) (fun r μ => PW l G 10 mX12_orders bg 68 [(0, (2, x0))] (r.toList ++ []) μ Q)) ∧ (¬ (F x0 19 = 0) → PC l G 0 mX12_tell (0, 0) [(2, x0), (0, (-6))] (n, K, F, E) (fun r μ => PW l G 10 mX12_orders bg 63 [] (r.toList ++ []) μ Q)))) : PW l G 10 mX12_orders bg 50 [(0, (2, x0))] [] (n, K, F, E) Q := by
  refine s_aload_n (q := 51) 25 0 rfl rfl ?_
  obtain ⟨c1, h⟩ := h
  refine n_getf (q := 54) (jj := 19) 26 12 19 rfl kX12_252 c1 ?_
  refine s_if_eq (q := 57) (tgt := 64) 27 rfl rfl (fun hb => ?_) (fun hb => ?_)
  · skip
    have b2 := hb
    replace h := h.1 hb
    refine s_aload_n (q := 65) 32 0 rfl rfl ?_
    refine PW.pick [0] rfl ?_
    exact n_callV (N := mX12_keepOrders) (as := []) (st := []) (q := 68) (d' := 1) 33 rfl uX12_keepOrders kX12_605 rfl c1 h
  · skip
    have b2 := hb
    replace h := h.2 hb
    refine s_aload_n (q := 58) 28 0 rfl rfl ?_
    refine s_bipush (q := 60) 29 rfl ?_
    refine PW.pick [] rfl ?_
    exact n_callV (N := mX12_tell) (as := [(0, (-6))]) (st := []) (q := 63) (d' := 0) 30 rfl uX12_tell kX12_190 rfl c1 h
theorem vX12_orders_43 {l : Launch} {G : pG} {bg : Nat × Nat} {n : Nat} {K : Int → Nat × Nat} {F E : Int → Int → Int} {Q : Option pV → pM → Prop} (x0 : Int) (h : PW l G 10 mX12_orders bg 19 [(0, (2, x0))] [] (n, K, F, E) Q) : PW l G 10 mX12_orders bg 43 [(0, (2, x0))] [] (n, K, F, E) Q := by
  refine s_goto (tgt := 19) 22 rfl rfl ?_
  refine PW.pick [0] rfl ?_
  exact h
theorem vX12_orders_63 {l : Launch} {G : pG} {bg : Nat × Nat} {n : Nat} {K : Int → Nat × Nat} {F E : Int → Int → Int} {Q : Option pV → pM → Prop} (s0 : Int) (h : Q (some (0, s0)) (n, K, F, E)) : PW l G 10 mX12_orders bg 63 [] [(0, s0)] (n, K, F, E) Q := by
  exact s_iret 31 rfl rfl h
theorem vX12_orders_68 {l : Launch} {G : pG} {bg : Nat × Nat} {n : Nat} {K : Int → Nat × Nat} {F E : Int → Int → Int} {Q : Option pV → pM → Prop} (x0 s0 : Int) (h : (K x0).1 = 12 ∧ (∀ F1, F1 = pUp F x0 68 0 → (∀ F2, F2 = pUp F1 x0 69 (-1) → PW l G 10 mX12_orders bg 81 [(0, (2, x0)), (1, (0, s0)), (2, (0, 0))] [] (n, K, F2, E) Q))) : PW l G 10 mX12_orders bg 68 [(0, (2, x0))] [(0, s0)] (n, K, F, E) Q := by
  refine s_istore_n (q := 69) (lv' := [(1, (0, s0)), (0, (2, x0))]) 34 rfl rfl ?_
  refine s_aload_n (q := 70) 35 1 rfl rfl ?_
  refine s_iconst (q := 71) 36 rfl ?_
  obtain ⟨c1, h⟩ := h
  refine n_putf (q := 74) (jj := 68) 37 12 68 rfl kX12_589 c1 (Or.inl rfl) ?_
  refine PW.nameF (fun F1 eF1 => ?_)
  replace h := h F1 eF1
  refine s_aload_n (q := 75) 38 1 rfl rfl ?_
  refine s_iconst (q := 76) 39 rfl ?_
  refine n_putf (q := 79) (jj := 69) 40 12 69 rfl kX12_592 c1 (Or.inl rfl) ?_
  refine PW.nameF (fun F2 eF2 => ?_)
  replace h := h F2 eF2
  refine s_iconst (q := 80) 41 rfl ?_
  refine s_istore_n (q := 81) (lv' := [(2, (0, 0)), (1, (0, s0)), (0, (2, x0))]) 42 rfl rfl ?_
  refine PW.pick [2, 1, 0] rfl ?_
  exact h
theorem vX12_orders_81 {l : Launch} {G : pG} {bg : Nat × Nat} {n : Nat} {K : Int → Nat × Nat} {F E : Int → Int → Int} {Q : Option pV → pM → Prop} (x0 x1 x2 : Int) (h : (K x0).1 = 12 ∧ ((F x0 21 ≤ x2 → PC l G 0 mX12_tell (0, 0) [(2, x0), (0, F x0 68)] (n, K, F, E) (fun r μ => PW l G 10 mX12_orders bg 155 [] (r.toList ++ []) μ Q)) ∧ (¬ (F x0 21 ≤ x2) → PW l G 10 mX12_orders bg 91 [(0, (2, x0)), (1, (0, x1)), (2, (0, x2)), (3, (0, 0))] [] (n, K, F, E) Q))) : PW l G 10 mX12_orders bg 81 [(0, (2, x0)), (1, (0, x1)), (2, (0, x2))] [] (n, K, F, E) Q := by
  refine s_iload_n (q := 82) 43 2 rfl rfl ?_
  refine s_aload_n (q := 83) 44 0 rfl rfl ?_
  obtain ⟨c1, h⟩ := h
  refine n_getf (q := 86) (jj := 21) 45 12 21 rfl kX12_383 c1 ?_
  refine s_icmp_ge (q := 89) (tgt := 147) 46 rfl rfl (fun hb => ?_) (fun hb => ?_)
  · skip
    have b2 := hb
    replace h := h.1 hb
    refine s_aload_n (q := 148) 79 0 rfl rfl ?_
    refine s_aload_n (q := 149) 80 0 rfl rfl ?_
    refine n_getf (q := 152) (jj := 68) 81 12 68 rfl kX12_589 c1 ?_
    refine PW.pick [] rfl ?_
    exact n_callV (N := mX12_tell) (as := [(0, F x0 68)]) (st := []) (q := 155) (d' := 0) 82 rfl uX12_tell kX12_190 rfl c1 h
  · skip
    have b2 := hb
    replace h := h.2 hb
    refine s_iconst (q := 90) 47 rfl ?_
    refine s_istore_n (q := 91) (lv' := [(3, (0, 0)), (0, (2, x0)), (1, (0, x1)), (2, (0, x2))]) 48 rfl rfl ?_
    refine PW.pick [1, 2, 3, 0] rfl ?_
    exact h
theorem vX12_orders_91 {l : Launch} {G : pG} {bg : Nat × Nat} {n : Nat} {K : Int → Nat × Nat} {F E : Int → Int → Int} {Q : Option pV → pM → Prop} (x0 x1 x2 x3 : Int) (h : (K x0).1 = 12 ∧ (-2147483648 ≤ 10 * x2 ∧ 10 * x2 < 2147483648) ∧ (-2147483648 ≤ (10 * x2) + 7 ∧ (10 * x2) + 7 < 2147483648) ∧ (K (F x0 67)).1 = 20 ∧ ((0 : Int) ≤ (10 * x2) + 7 ∧ (10 * x2) + 7 < ((K (F x0 67)).2 : Int)) ∧ ((E (F x0 67) ((10 * x2) + 7) ≤ x3 → (-2147483648 ≤ x2 + 1 ∧ x2 + 1 < 2147483648) ∧ PW l G 10 mX12_orders bg 81 [(0, (2, x0)), (1, (0, x1)), (2, (0, x2 + 1))] [] (n, K, F, E) Q) ∧ (¬ (E (F x0 67) ((10 * x2) + 7) ≤ x3) → PC l G 9 mX12_run (0, 0) [(2, x0), (0, 10 * x2)] (n, K, F, E) (fun r μ => PW l G 10 mX12_orders bg 115 [(0, (2, x0)), (1, (0, x1)), (2, (0, x2)), (3, (0, x3))] (r.toList ++ []) μ Q)))) : PW l G 10 mX12_orders bg 91 [(0, (2, x0)), (1, (0, x1)), (2, (0, x2)), (3, (0, x3))] [] (n, K, F, E) Q := by
  refine s_iload_n (q := 92) 49 3 rfl rfl ?_
  refine s_aload_n (q := 93) 50 0 rfl rfl ?_
  obtain ⟨c1, h⟩ := h
  refine n_getf (q := 96) (jj := 67) 51 12 67 rfl kX12_162 c1 ?_
  refine s_bipush (q := 98) 52 rfl ?_
  refine s_iload_n (q := 99) 53 2 rfl rfl ?_
  obtain ⟨c2, h⟩ := h
  refine n_imul (q := 100) 54 rfl c2 ?_
  refine s_bipush (q := 102) 55 rfl ?_
  obtain ⟨c3, h⟩ := h
  refine n_iadd (q := 103) 56 rfl c3 ?_
  obtain ⟨c4, h⟩ := h
  obtain ⟨c5, h⟩ := h
  refine n_iald (q := 104) 57 rfl c4 c5 ?_
  refine s_icmp_ge (q := 107) (tgt := 141) 58 rfl rfl (fun hb => ?_) (fun hb => ?_)
  · skip
    have b6 := hb
    replace h := h.1 hb
    obtain ⟨c7, h⟩ := h
    refine n_iinc (q := 144) (lv' := [(2, (0, x2 + 1)), (0, (2, x0)), (1, (0, x1)), (3, (0, x3))]) 77 2 rfl rfl c7 rfl ?_
    refine s_goto (tgt := 81) 78 rfl rfl ?_
    refine PW.pick [1, 2, 0] rfl ?_
    exact h
  · skip
    have b6 := hb
    replace h := h.2 hb
    refine s_aload_n (q := 108) 59 0 rfl rfl ?_
    refine s_bipush (q := 110) 60 rfl ?_
    refine s_iload_n (q := 111) 61 2 rfl rfl ?_
    refine n_imul (q := 112) 62 rfl c2 ?_
    refine PW.pick [0, 1, 2, 3] rfl ?_
    exact n_callV (N := mX12_run) (as := [(0, 10 * x2)]) (st := []) (q := 115) (d' := 9) 63 rfl uX12_run kX12_608 rfl c1 h
theorem vX12_orders_155 {l : Launch} {G : pG} {bg : Nat × Nat} {n : Nat} {K : Int → Nat × Nat} {F E : Int → Int → Int} {Q : Option pV → pM → Prop} (s0 : Int) (h : Q (some (0, s0)) (n, K, F, E)) : PW l G 10 mX12_orders bg 155 [] [(0, s0)] (n, K, F, E) Q := by
  exact s_iret 83 rfl rfl h
theorem vX12_orders_115 {l : Launch} {G : pG} {bg : Nat × Nat} {n : Nat} {K : Int → Nat × Nat} {F E : Int → Int → Int} {Q : Option pV → pM → Prop} (x0 x1 x2 x3 s0 : Int) (h : ((0 ≤ s0 → (-2147483648 ≤ x3 + 1 ∧ x3 + 1 < 2147483648) ∧ PW l G 10 mX12_orders bg 91 [(0, (2, x0)), (1, (0, x1)), (2, (0, x2)), (3, (0, x3 + 1))] [] (n, K, F, E) Q) ∧ (¬ (0 ≤ s0) → (K x0).1 = 12 ∧ PC l G 1 mX12_giveBack (0, 0) [(2, x0), (0, x1)] (n, K, F, E) (fun r μ => PW l G 10 mX12_orders bg 123 [(0, (2, x0)), (2, (0, x2))] (r.toList ++ []) μ Q)))) : PW l G 10 mX12_orders bg 115 [(0, (2, x0)), (1, (0, x1)), (2, (0, x2)), (3, (0, x3))] [(0, s0)] (n, K, F, E) Q := by
  refine s_if_ge (q := 118) (tgt := 135) 64 rfl rfl (fun hb => ?_) (fun hb => ?_)
  · skip
    have b1 := hb
    replace h := h.1 hb
    obtain ⟨c2, h⟩ := h
    refine n_iinc (q := 138) (lv' := [(3, (0, x3 + 1)), (0, (2, x0)), (1, (0, x1)), (2, (0, x2))]) 75 3 rfl rfl c2 rfl ?_
    refine s_goto (tgt := 91) 76 rfl rfl ?_
    refine PW.pick [1, 2, 3, 0] rfl ?_
    exact h
  · skip
    have b1 := hb
    replace h := h.2 hb
    refine s_aload_n (q := 119) 65 0 rfl rfl ?_
    refine s_iload_n (q := 120) 66 1 rfl rfl ?_
    obtain ⟨c3, h⟩ := h
    refine PW.pick [0, 2] rfl ?_
    exact n_callV (N := mX12_giveBack) (as := [(0, x1)]) (st := []) (q := 123) (d' := 1) 67 rfl uX12_giveBack kX12_611 rfl c3 h
theorem vX12_orders_123 {l : Launch} {G : pG} {bg : Nat × Nat} {n : Nat} {K : Int → Nat × Nat} {F E : Int → Int → Int} {Q : Option pV → pM → Prop} (x0 x2 : Int) (h : (K x0).1 = 12 ∧ (∀ F1, F1 = pUp F x0 70 x2 → PC l G 0 mX12_tell (0, 0) [(2, x0), (0, (-3))] (n, K, F1, E) (fun r μ => PW l G 10 mX12_orders bg 134 [] (r.toList ++ []) μ Q))) : PW l G 10 mX12_orders bg 123 [(0, (2, x0)), (2, (0, x2))] [] (n, K, F, E) Q := by
  refine s_aload_n (q := 124) 68 0 rfl rfl ?_
  refine s_iload_n (q := 125) 69 1 rfl rfl ?_
  obtain ⟨c1, h⟩ := h
  refine n_putf (q := 128) (jj := 70) 70 12 70 rfl kX12_165 c1 (Or.inl rfl) ?_
  refine PW.nameF (fun F1 eF1 => ?_)
  replace h := h F1 eF1
  refine s_aload_n (q := 129) 71 0 rfl rfl ?_
  refine s_bipush (q := 131) 72 rfl ?_
  refine PW.pick [] rfl ?_
  exact n_callV (N := mX12_tell) (as := [(0, (-3))]) (st := []) (q := 134) (d' := 0) 73 rfl uX12_tell kX12_190 rfl c1 h
theorem vX12_orders_134 {l : Launch} {G : pG} {bg : Nat × Nat} {n : Nat} {K : Int → Nat × Nat} {F E : Int → Int → Int} {Q : Option pV → pM → Prop} (s0 : Int) (h : Q (some (0, s0)) (n, K, F, E)) : PW l G 10 mX12_orders bg 134 [] [(0, s0)] (n, K, F, E) Q := by
  exact s_iret 74 rfl rfl h
theorem vX12_keepOrders_0 {l : Launch} {G : pG} {bg : Nat × Nat} {n : Nat} {K : Int → Nat × Nat} {F E : Int → Int → Int} {Q : Option pV → pM → Prop} (x0 : Int) (h : (K x0).1 = 12 ∧ PC l G 0 mX12_keepAll (0, 0) [(2, x0), (0, 17)] (n, K, F, E) (fun r μ => PW l G 1 mX12_keepOrders bg 6 [(0, (2, x0))] (r.toList ++ []) μ Q)) : PW l G 1 mX12_keepOrders bg 0 [(0, (2, x0))] [] (n, K, F, E) Q := by
  refine s_aload_n (q := 1) 0 0 rfl rfl ?_
  refine s_bipush (q := 3) 1 rfl ?_
  obtain ⟨c1, h⟩ := h
  refine PW.pick [0] rfl ?_
  exact n_callV (N := mX12_keepAll) (as := [(0, 17)]) (st := []) (q := 6) (d' := 0) 2 rfl uX12_keepAll kX12_183 rfl c1 h
theorem vX12_keepOrders_6 {l : Launch} {G : pG} {bg : Nat × Nat} {n : Nat} {K : Int → Nat × Nat} {F E : Int → Int → Int} {Q : Option pV → pM → Prop} (x0 : Int) (h : PW l G 1 mX12_keepOrders bg 8 [(0, (2, x0)), (1, (0, 0))] [] (n, K, F, E) Q) : PW l G 1 mX12_keepOrders bg 6 [(0, (2, x0))] [] (n, K, F, E) Q := by
  refine s_iconst (q := 7) 3 rfl ?_
  refine s_istore_n (q := 8) (lv' := [(1, (0, 0)), (0, (2, x0))]) 4 rfl rfl ?_
  refine PW.pick [1, 0] rfl ?_
  exact h
theorem vX12_keepOrders_8 {l : Launch} {G : pG} {bg : Nat × Nat} {n : Nat} {K : Int → Nat × Nat} {F E : Int → Int → Int} {Q : Option pV → pM → Prop} (x0 x1 : Int) (h : ((1872 ≤ x1 → PW l G 1 mX12_keepOrders bg 35 [(0, (2, x0)), (1, (0, 0))] [] (n, K, F, E) Q) ∧ (¬ (1872 ≤ x1) → (K x0).1 = 12 ∧ (K (F x0 6)).1 = 20 ∧ ((0 : Int) ≤ x1 ∧ x1 < ((K (F x0 6)).2 : Int)) ∧ (0 : Int) ≤ F x0 9 ∧ (K (F x0 9)).1 = 20 ∧ ((0 : Int) ≤ x1 ∧ x1 < ((K (F x0 9)).2 : Int)) ∧ (∀ E1, E1 = pUp E (F x0 9) x1 (E (F x0 6) x1) → (-2147483648 ≤ x1 + 1 ∧ x1 + 1 < 2147483648) ∧ PW l G 1 mX12_keepOrders bg 8 [(0, (2, x0)), (1, (0, x1 + 1))] [] (n, K, F, E1) Q)))) : PW l G 1 mX12_keepOrders bg 8 [(0, (2, x0)), (1, (0, x1))] [] (n, K, F, E) Q := by
  refine s_iload_n (q := 9) 5 1 rfl rfl ?_
  refine s_sipush (q := 12) 6 rfl ?_
  refine s_icmp_ge (q := 15) (tgt := 33) 7 rfl rfl (fun hb => ?_) (fun hb => ?_)
  · skip
    have b1 := hb
    replace h := h.1 hb
    refine s_iconst (q := 34) 18 rfl ?_
    refine s_istore_n (q := 35) (lv' := [(1, (0, 0)), (0, (2, x0))]) 19 rfl rfl ?_
    refine PW.pick [1, 0] rfl ?_
    exact h
  · skip
    have b1 := hb
    replace h := h.2 hb
    refine s_aload_n (q := 16) 8 0 rfl rfl ?_
    obtain ⟨c2, h⟩ := h
    refine n_getf (q := 19) (jj := 9) 9 12 9 rfl kX12_29 c2 ?_
    refine s_iload_n (q := 20) 10 1 rfl rfl ?_
    refine s_aload_n (q := 21) 11 0 rfl rfl ?_
    refine n_getf (q := 24) (jj := 6) 12 12 6 rfl kX12_23 c2 ?_
    refine s_iload_n (q := 25) 13 1 rfl rfl ?_
    obtain ⟨c3, h⟩ := h
    obtain ⟨c4, h⟩ := h
    refine n_iald (q := 26) 14 rfl c3 c4 ?_
    obtain ⟨c5, h⟩ := h
    obtain ⟨c6, h⟩ := h
    obtain ⟨c7, h⟩ := h
    refine n_iast (q := 27) 15 rfl c5 c6 c7 ?_
    refine PW.nameE (fun E1 eE1 => ?_)
    replace h := h E1 eE1
    obtain ⟨c8, h⟩ := h
    refine n_iinc (q := 30) (lv' := [(1, (0, x1 + 1)), (0, (2, x0))]) 16 1 rfl rfl c8 rfl ?_
    refine s_goto (tgt := 8) 17 rfl rfl ?_
    refine PW.pick [1, 0] rfl ?_
    exact h
theorem vX12_keepOrders_35 {l : Launch} {G : pG} {bg : Nat × Nat} {n : Nat} {K : Int → Nat × Nat} {F E : Int → Int → Int} {Q : Option pV → pM → Prop} (x0 x1 : Int) (h : ((16 ≤ x1 → (K x0).1 = 12 ∧ Q (some (0, F x0 8)) (n, K, F, E)) ∧ (¬ (16 ≤ x1) → (K x0).1 = 12 ∧ (K (F x0 7)).1 = 20 ∧ ((0 : Int) ≤ x1 ∧ x1 < ((K (F x0 7)).2 : Int)) ∧ (0 : Int) ≤ F x0 10 ∧ (K (F x0 10)).1 = 20 ∧ ((0 : Int) ≤ x1 ∧ x1 < ((K (F x0 10)).2 : Int)) ∧ (∀ E1, E1 = pUp E (F x0 10) x1 (E (F x0 7) x1) → (-2147483648 ≤ x1 + 1 ∧ x1 + 1 < 2147483648) ∧ PW l G 1 mX12_keepOrders bg 35 [(0, (2, x0)), (1, (0, x1 + 1))] [] (n, K, F, E1) Q)))) : PW l G 1 mX12_keepOrders bg 35 [(0, (2, x0)), (1, (0, x1))] [] (n, K, F, E) Q := by
  refine s_iload_n (q := 36) 20 1 rfl rfl ?_
  refine s_bipush (q := 38) 21 rfl ?_
  refine s_icmp_ge (q := 41) (tgt := 59) 22 rfl rfl (fun hb => ?_) (fun hb => ?_)
  · skip
    have b1 := hb
    replace h := h.1 hb
    refine s_aload_n (q := 60) 33 0 rfl rfl ?_
    obtain ⟨c2, h⟩ := h
    refine n_getf (q := 63) (jj := 8) 34 12 8 rfl kX12_180 c2 ?_
    exact s_iret 35 rfl rfl h
  · skip
    have b1 := hb
    replace h := h.2 hb
    refine s_aload_n (q := 42) 23 0 rfl rfl ?_
    obtain ⟨c3, h⟩ := h
    refine n_getf (q := 45) (jj := 10) 24 12 10 rfl kX12_32 c3 ?_
    refine s_iload_n (q := 46) 25 1 rfl rfl ?_
    refine s_aload_n (q := 47) 26 0 rfl rfl ?_
    refine n_getf (q := 50) (jj := 7) 27 12 7 rfl kX12_26 c3 ?_
    refine s_iload_n (q := 51) 28 1 rfl rfl ?_
    obtain ⟨c4, h⟩ := h
    obtain ⟨c5, h⟩ := h
    refine n_iald (q := 52) 29 rfl c4 c5 ?_
    obtain ⟨c6, h⟩ := h
    obtain ⟨c7, h⟩ := h
    obtain ⟨c8, h⟩ := h
    refine n_iast (q := 53) 30 rfl c6 c7 c8 ?_
    refine PW.nameE (fun E1 eE1 => ?_)
    replace h := h E1 eE1
    obtain ⟨c9, h⟩ := h
    refine n_iinc (q := 56) (lv' := [(1, (0, x1 + 1)), (0, (2, x0))]) 31 1 rfl rfl c9 rfl ?_
    refine s_goto (tgt := 35) 32 rfl rfl ?_
    refine PW.pick [1, 0] rfl ?_
    exact h
theorem vX12_giveBack_0 {l : Launch} {G : pG} {bg : Nat × Nat} {n : Nat} {K : Int → Nat × Nat} {F E : Int → Int → Int} {Q : Option pV → pM → Prop} (x0 x1 : Int) (h : (K x0).1 = 12 ∧ PC l G 0 mX12_putBack (0, 0) [(2, x0), (0, 17)] (n, K, F, E) (fun r μ => PW l G 1 mX12_giveBack bg 6 [(0, (2, x0)), (1, (0, x1))] (r.toList ++ []) μ Q)) : PW l G 1 mX12_giveBack bg 0 [(0, (2, x0)), (1, (0, x1))] [] (n, K, F, E) Q := by
  refine s_aload_n (q := 1) 0 0 rfl rfl ?_
  refine s_bipush (q := 3) 1 rfl ?_
  obtain ⟨c1, h⟩ := h
  refine PW.pick [0, 1] rfl ?_
  exact n_callV (N := mX12_putBack) (as := [(0, 17)]) (st := []) (q := 6) (d' := 0) 2 rfl uX12_putBack kX12_194 rfl c1 h
theorem vX12_giveBack_6 {l : Launch} {G : pG} {bg : Nat × Nat} {n : Nat} {K : Int → Nat × Nat} {F E : Int → Int → Int} {Q : Option pV → pM → Prop} (x0 x1 : Int) (h : PW l G 1 mX12_giveBack bg 8 [(0, (2, x0)), (1, (0, x1)), (2, (0, 0))] [] (n, K, F, E) Q) : PW l G 1 mX12_giveBack bg 6 [(0, (2, x0)), (1, (0, x1))] [] (n, K, F, E) Q := by
  refine s_iconst (q := 7) 3 rfl ?_
  refine s_istore_n (q := 8) (lv' := [(2, (0, 0)), (0, (2, x0)), (1, (0, x1))]) 4 rfl rfl ?_
  refine PW.pick [1, 2, 0] rfl ?_
  exact h
theorem vX12_giveBack_8 {l : Launch} {G : pG} {bg : Nat × Nat} {n : Nat} {K : Int → Nat × Nat} {F E : Int → Int → Int} {Q : Option pV → pM → Prop} (x0 x1 x2 : Int) (h : ((1872 ≤ x2 → PW l G 1 mX12_giveBack bg 35 [(0, (2, x0)), (1, (0, x1)), (2, (0, 0))] [] (n, K, F, E) Q) ∧ (¬ (1872 ≤ x2) → (K x0).1 = 12 ∧ (K (F x0 9)).1 = 20 ∧ ((0 : Int) ≤ x2 ∧ x2 < ((K (F x0 9)).2 : Int)) ∧ (0 : Int) ≤ F x0 6 ∧ (K (F x0 6)).1 = 20 ∧ ((0 : Int) ≤ x2 ∧ x2 < ((K (F x0 6)).2 : Int)) ∧ (∀ E1, E1 = pUp E (F x0 6) x2 (E (F x0 9) x2) → (-2147483648 ≤ x2 + 1 ∧ x2 + 1 < 2147483648) ∧ PW l G 1 mX12_giveBack bg 8 [(0, (2, x0)), (1, (0, x1)), (2, (0, x2 + 1))] [] (n, K, F, E1) Q)))) : PW l G 1 mX12_giveBack bg 8 [(0, (2, x0)), (1, (0, x1)), (2, (0, x2))] [] (n, K, F, E) Q := by
  refine s_iload_n (q := 9) 5 2 rfl rfl ?_
  refine s_sipush (q := 12) 6 rfl ?_
  refine s_icmp_ge (q := 15) (tgt := 33) 7 rfl rfl (fun hb => ?_) (fun hb => ?_)
  · skip
    have b1 := hb
    replace h := h.1 hb
    refine s_iconst (q := 34) 18 rfl ?_
    refine s_istore_n (q := 35) (lv' := [(2, (0, 0)), (0, (2, x0)), (1, (0, x1))]) 19 rfl rfl ?_
    refine PW.pick [1, 2, 0] rfl ?_
    exact h
  · skip
    have b1 := hb
    replace h := h.2 hb
    refine s_aload_n (q := 16) 8 0 rfl rfl ?_
    obtain ⟨c2, h⟩ := h
    refine n_getf (q := 19) (jj := 6) 9 12 6 rfl kX12_23 c2 ?_
    refine s_iload_n (q := 20) 10 2 rfl rfl ?_
    refine s_aload_n (q := 21) 11 0 rfl rfl ?_
    refine n_getf (q := 24) (jj := 9) 12 12 9 rfl kX12_29 c2 ?_
    refine s_iload_n (q := 25) 13 2 rfl rfl ?_
    obtain ⟨c3, h⟩ := h
    obtain ⟨c4, h⟩ := h
    refine n_iald (q := 26) 14 rfl c3 c4 ?_
    obtain ⟨c5, h⟩ := h
    obtain ⟨c6, h⟩ := h
    obtain ⟨c7, h⟩ := h
    refine n_iast (q := 27) 15 rfl c5 c6 c7 ?_
    refine PW.nameE (fun E1 eE1 => ?_)
    replace h := h E1 eE1
    obtain ⟨c8, h⟩ := h
    refine n_iinc (q := 30) (lv' := [(2, (0, x2 + 1)), (0, (2, x0)), (1, (0, x1))]) 16 2 rfl rfl c8 rfl ?_
    refine s_goto (tgt := 8) 17 rfl rfl ?_
    refine PW.pick [1, 2, 0] rfl ?_
    exact h
theorem vX12_giveBack_35 {l : Launch} {G : pG} {bg : Nat × Nat} {n : Nat} {K : Int → Nat × Nat} {F E : Int → Int → Int} {Q : Option pV → pM → Prop} (x0 x1 x2 : Int) (h : ((16 ≤ x2 → (K x0).1 = 12 ∧ (∀ F1, F1 = pUp F x0 8 x1 → Q none (n, K, F1, E))) ∧ (¬ (16 ≤ x2) → (K x0).1 = 12 ∧ (K (F x0 10)).1 = 20 ∧ ((0 : Int) ≤ x2 ∧ x2 < ((K (F x0 10)).2 : Int)) ∧ (0 : Int) ≤ F x0 7 ∧ (K (F x0 7)).1 = 20 ∧ ((0 : Int) ≤ x2 ∧ x2 < ((K (F x0 7)).2 : Int)) ∧ (∀ E2, E2 = pUp E (F x0 7) x2 (E (F x0 10) x2) → (-2147483648 ≤ x2 + 1 ∧ x2 + 1 < 2147483648) ∧ PW l G 1 mX12_giveBack bg 35 [(0, (2, x0)), (1, (0, x1)), (2, (0, x2 + 1))] [] (n, K, F, E2) Q)))) : PW l G 1 mX12_giveBack bg 35 [(0, (2, x0)), (1, (0, x1)), (2, (0, x2))] [] (n, K, F, E) Q := by
  refine s_iload_n (q := 36) 20 2 rfl rfl ?_
  refine s_bipush (q := 38) 21 rfl ?_
  refine s_icmp_ge (q := 41) (tgt := 59) 22 rfl rfl (fun hb => ?_) (fun hb => ?_)
  · skip
    have b1 := hb
    replace h := h.1 hb
    refine s_aload_n (q := 60) 33 0 rfl rfl ?_
    refine s_iload_n (q := 61) 34 1 rfl rfl ?_
    obtain ⟨c2, h⟩ := h
    refine n_putf (q := 64) (jj := 8) 35 12 8 rfl kX12_180 c2 (Or.inl rfl) ?_
    refine PW.nameF (fun F1 eF1 => ?_)
    replace h := h F1 eF1
    exact s_vret 36 rfl rfl h
  · skip
    have b1 := hb
    replace h := h.2 hb
    refine s_aload_n (q := 42) 23 0 rfl rfl ?_
    obtain ⟨c3, h⟩ := h
    refine n_getf (q := 45) (jj := 7) 24 12 7 rfl kX12_26 c3 ?_
    refine s_iload_n (q := 46) 25 2 rfl rfl ?_
    refine s_aload_n (q := 47) 26 0 rfl rfl ?_
    refine n_getf (q := 50) (jj := 10) 27 12 10 rfl kX12_32 c3 ?_
    refine s_iload_n (q := 51) 28 2 rfl rfl ?_
    obtain ⟨c4, h⟩ := h
    obtain ⟨c5, h⟩ := h
    refine n_iald (q := 52) 29 rfl c4 c5 ?_
    obtain ⟨c6, h⟩ := h
    obtain ⟨c7, h⟩ := h
    obtain ⟨c8, h⟩ := h
    refine n_iast (q := 53) 30 rfl c6 c7 c8 ?_
    refine PW.nameE (fun E2 eE2 => ?_)
    replace h := h E2 eE2
    obtain ⟨c9, h⟩ := h
    refine n_iinc (q := 56) (lv' := [(2, (0, x2 + 1)), (0, (2, x0)), (1, (0, x1))]) 31 2 rfl rfl c9 rfl ?_
    refine s_goto (tgt := 35) 32 rfl rfl ?_
    refine PW.pick [1, 2, 0] rfl ?_
    exact h
theorem vX12_stopped_0 {l : Launch} {G : pG} {bg : Nat × Nat} {n : Nat} {K : Int → Nat × Nat} {F E : Int → Int → Int} {Q : Option pV → pM → Prop} (x0 : Int) (h : (K x0).1 = 12 ∧ (∀ F1, F1 = pUp F x0 0 0 → Q (some (0, F x0 70)) (n, K, F1, E))) : PW l G 0 mX12_stopped bg 0 [(0, (2, x0))] [] (n, K, F, E) Q := by
  refine s_aload_n (q := 1) 0 0 rfl rfl ?_
  refine s_iconst (q := 2) 1 rfl ?_
  obtain ⟨c1, h⟩ := h
  refine n_putf (q := 5) (jj := 0) 2 12 0 rfl kX12_174 c1 (Or.inl rfl) ?_
  refine PW.nameF (fun F1 eF1 => ?_)
  replace h := h F1 eF1
  refine s_aload_n (q := 6) 3 0 rfl rfl ?_
  refine n_getf (q := 9) (jj := 70) 4 12 70 rfl kX12_165 c1 ?_
  refine PW.top (b := F x0 70) (by exact (congrFun (congrFun eF1 _) _).trans (pUp_k (by decide))) ?_
  exact s_iret 5 rfl rfl h
