theorem vX12_bringResult_0 {l : Launch} {G : pG} {bg : Nat × Nat} {n : Nat} {K : Int → Nat × Nat} {F E : Int → Int → Int} {Q : Option pV → pM → Prop} (x0 x1 : Int) (h : PW l G 0 mX12_bringResult bg 2 [(0, (2, x0)), (1, (0, x1)), (2, (0, 0))] [] (n, K, F, E) Q) : PW l G 0 mX12_bringResult bg 0 [(0, (2, x0)), (1, (0, x1))] [] (n, K, F, E) Q := by
  refine s_iconst (q := 1) 0 rfl ?_
  refine s_istore_n (q := 2) (lv' := [(2, (0, 0)), (0, (2, x0)), (1, (0, x1))]) 1 rfl rfl ?_
  refine PW.pick [1, 2, 0] rfl ?_
  exact h
theorem vX12_bringResult_2 {l : Launch} {G : pG} {bg : Nat × Nat} {n : Nat} {K : Int → Nat × Nat} {F E : Int → Int → Int} {Q : Option pV → pM → Prop} (x0 x1 x2 : Int) (h : ((3 ≤ x2 → (K x0).1 = 12 ∧ (-2147483648 ≤ (F x0 51) + 1 ∧ (F x0 51) + 1 < 2147483648) ∧ (∀ F1, F1 = pUp F x0 51 ((F x0 51) + 1) → Q none (n, K, F1, E))) ∧ (¬ (3 ≤ x2) → (K x0).1 = 12 ∧ ((99 ≤ F x0 51 → (-2147483648 ≤ (F x0 51) + 1 ∧ (F x0 51) + 1 < 2147483648) ∧ (∀ F2, F2 = pUp F x0 51 ((F x0 51) + 1) → Q none (n, K, F2, E))) ∧ (¬ (99 ≤ F x0 51) → (-2147483648 ≤ 3 * (F x0 51) ∧ 3 * (F x0 51) < 2147483648) ∧ (-2147483648 ≤ (3 * (F x0 51)) + x2 ∧ (3 * (F x0 51)) + x2 < 2147483648) ∧ (-2147483648 ≤ 3 * x1 ∧ 3 * x1 < 2147483648) ∧ (-2147483648 ≤ (3 * x1) + x2 ∧ (3 * x1) + x2 < 2147483648) ∧ (K (F x0 41)).1 = 20 ∧ ((0 : Int) ≤ (3 * x1) + x2 ∧ (3 * x1) + x2 < ((K (F x0 41)).2 : Int)) ∧ (0 : Int) ≤ F x0 54 ∧ (K (F x0 54)).1 = 20 ∧ ((0 : Int) ≤ (3 * (F x0 51)) + x2 ∧ (3 * (F x0 51)) + x2 < ((K (F x0 54)).2 : Int)) ∧ (∀ E3, E3 = pUp E (F x0 54) ((3 * (F x0 51)) + x2) (E (F x0 41) ((3 * x1) + x2)) → (-2147483648 ≤ x2 + 1 ∧ x2 + 1 < 2147483648) ∧ PW l G 0 mX12_bringResult bg 2 [(0, (2, x0)), (1, (0, x1)), (2, (0, x2 + 1))] [] (n, K, F, E3) Q)))))) : PW l G 0 mX12_bringResult bg 2 [(0, (2, x0)), (1, (0, x1)), (2, (0, x2))] [] (n, K, F, E) Q := by
  refine s_iload_n (q := 3) 2 2 rfl rfl ?_
  refine s_iconst (q := 4) 3 rfl ?_
  refine s_icmp_ge (q := 7) (tgt := 45) 4 rfl rfl (fun hb => ?_) (fun hb => ?_)
  · skip
    have b1 := hb
    replace h := h.1 hb
    refine s_aload_n (q := 46) 28 0 rfl rfl ?_
    refine s_dup (q := 47) 29 rfl ?_
    obtain ⟨c2, h⟩ := h
    refine n_getf (q := 50) (jj := 51) 30 12 51 rfl kX12_473 c2 ?_
    refine s_iconst (q := 51) 31 rfl ?_
    obtain ⟨c3, h⟩ := h
    refine n_iadd (q := 52) 32 rfl c3 ?_
    refine n_putf (q := 55) (jj := 51) 33 12 51 rfl kX12_473 c2 (Or.inl rfl) ?_
    refine PW.nameF (fun F1 eF1 => ?_)
    replace h := h F1 eF1
    exact s_vret 34 rfl rfl h
  · skip
    have b1 := hb
    replace h := h.2 hb
    refine s_aload_n (q := 8) 5 0 rfl rfl ?_
    obtain ⟨c4, h⟩ := h
    refine n_getf (q := 11) (jj := 51) 6 12 51 rfl kX12_473 c4 ?_
    refine s_bipush (q := 13) 7 rfl ?_
    refine s_icmp_ge (q := 16) (tgt := 45) 8 rfl rfl (fun hb => ?_) (fun hb => ?_)
    · skip
      have b5 := hb
      replace h := h.1 hb
      refine s_aload_n (q := 46) 28 0 rfl rfl ?_
      refine s_dup (q := 47) 29 rfl ?_
      refine n_getf (q := 50) (jj := 51) 30 12 51 rfl kX12_473 c4 ?_
      refine s_iconst (q := 51) 31 rfl ?_
      obtain ⟨c6, h⟩ := h
      refine n_iadd (q := 52) 32 rfl c6 ?_
      refine n_putf (q := 55) (jj := 51) 33 12 51 rfl kX12_473 c4 (Or.inl rfl) ?_
      refine PW.nameF (fun F2 eF2 => ?_)
      replace h := h F2 eF2
      exact s_vret 34 rfl rfl h
    · skip
      have b5 := hb
      replace h := h.2 hb
      refine s_aload_n (q := 17) 9 0 rfl rfl ?_
      refine n_getf (q := 20) (jj := 54) 10 12 54 rfl kX12_127 c4 ?_
      refine s_iconst (q := 21) 11 rfl ?_
      refine s_aload_n (q := 22) 12 0 rfl rfl ?_
      refine n_getf (q := 25) (jj := 51) 13 12 51 rfl kX12_473 c4 ?_
      obtain ⟨c7, h⟩ := h
      refine n_imul (q := 26) 14 rfl c7 ?_
      refine s_iload_n (q := 27) 15 2 rfl rfl ?_
      obtain ⟨c8, h⟩ := h
      refine n_iadd (q := 28) 16 rfl c8 ?_
      refine s_aload_n (q := 29) 17 0 rfl rfl ?_
      refine n_getf (q := 32) (jj := 41) 18 12 41 rfl kX12_106 c4 ?_
      refine s_iconst (q := 33) 19 rfl ?_
      refine s_iload_n (q := 34) 20 1 rfl rfl ?_
      obtain ⟨c9, h⟩ := h
      refine n_imul (q := 35) 21 rfl c9 ?_
      refine s_iload_n (q := 36) 22 2 rfl rfl ?_
      obtain ⟨c10, h⟩ := h
      refine n_iadd (q := 37) 23 rfl c10 ?_
      obtain ⟨c11, h⟩ := h
      obtain ⟨c12, h⟩ := h
      refine n_iald (q := 38) 24 rfl c11 c12 ?_
      obtain ⟨c13, h⟩ := h
      obtain ⟨c14, h⟩ := h
      obtain ⟨c15, h⟩ := h
      refine n_iast (q := 39) 25 rfl c13 c14 c15 ?_
      refine PW.nameE (fun E3 eE3 => ?_)
      replace h := h E3 eE3
      obtain ⟨c16, h⟩ := h
      refine n_iinc (q := 42) (lv' := [(2, (0, x2 + 1)), (0, (2, x0)), (1, (0, x1))]) 26 2 rfl rfl c16 rfl ?_
      refine s_goto (tgt := 2) 27 rfl rfl ?_
      refine PW.pick [1, 2, 0] rfl ?_
      exact h
theorem vX12_advance_0 {l : Launch} {G : pG} {bg : Nat × Nat} {n : Nat} {K : Int → Nat × Nat} {F E : Int → Int → Int} {Q : Option pV → pM → Prop} (x0 x1 x2 : Int) (h : (K x0).1 = 12 ∧ (K (F x0 3)).1 = 20 ∧ ((0 : Int) ≤ 6 ∧ 6 < ((K (F x0 3)).2 : Int)) ∧ (-2147483648 ≤ (bShl 1 (E (F x0 3) 6)) - 1 ∧ (bShl 1 (E (F x0 3) 6)) - 1 < 2147483648) ∧ PW l G 5 mX12_advance bg 12 [(0, (2, x0)), (1, (0, x1)), (2, (0, x2)), (3, (0, (bShl 1 (E (F x0 3) 6)) - 1))] [] (n, K, F, E) Q) : PW l G 5 mX12_advance bg 0 [(0, (2, x0)), (1, (0, x1)), (2, (0, x2))] [] (n, K, F, E) Q := by
  refine s_iconst (q := 1) 0 rfl ?_
  refine s_aload_n (q := 2) 1 0 rfl rfl ?_
  obtain ⟨c1, h⟩ := h
  refine n_getf (q := 5) (jj := 3) 2 12 3 rfl kX12_13 c1 ?_
  refine s_bipush (q := 7) 3 rfl ?_
  obtain ⟨c2, h⟩ := h
  obtain ⟨c3, h⟩ := h
  refine n_iald (q := 8) 4 rfl c2 c3 ?_
  refine s_ishl (q := 9) 5 rfl ?_
  refine s_iconst (q := 10) 6 rfl ?_
  obtain ⟨c4, h⟩ := h
  refine n_isub (q := 11) 7 rfl c4 ?_
  refine s_istore_n (q := 12) (lv' := [(3, (0, (bShl 1 (E (F x0 3) 6)) - 1)), (0, (2, x0)), (1, (0, x1)), (2, (0, x2))]) 8 rfl rfl ?_
  refine PW.pick [1, 2, 3, 0] rfl ?_
  exact h
theorem vX12_advance_12 {l : Launch} {G : pG} {bg : Nat × Nat} {n : Nat} {K : Int → Nat × Nat} {F E : Int → Int → Int} {Q : Option pV → pM → Prop} (x0 x1 x2 x3 : Int) (h : (K x0).1 = 12 ∧ (K (F x0 42)).1 = 20 ∧ ((0 : Int) ≤ x1 ∧ x1 < ((K (F x0 42)).2 : Int)) ∧ ((E (F x0 42) x1 = x3 → PC l G 0 mX12_bringResult (0, 0) [(2, x0), (0, x1)] (n, K, F, E) (fun r μ => PW l G 5 mX12_advance bg 240 [] (r.toList ++ []) μ Q)) ∧ (¬ (E (F x0 42) x1 = x3) → PC l G 2 mX12_taker (0, 0) [(2, x0), (0, x1)] (n, K, F, E) (fun r μ => PW l G 5 mX12_advance bg 27 [(0, (2, x0)), (1, (0, x1)), (2, (0, x2)), (3, (0, x3))] (r.toList ++ []) μ Q)))) : PW l G 5 mX12_advance bg 12 [(0, (2, x0)), (1, (0, x1)), (2, (0, x2)), (3, (0, x3))] [] (n, K, F, E) Q := by
  refine s_aload_n (q := 13) 9 0 rfl rfl ?_
  obtain ⟨c1, h⟩ := h
  refine n_getf (q := 16) (jj := 42) 10 12 42 rfl kX12_109 c1 ?_
  refine s_iload_n (q := 17) 11 1 rfl rfl ?_
  obtain ⟨c2, h⟩ := h
  obtain ⟨c3, h⟩ := h
  refine n_iald (q := 18) 12 rfl c2 c3 ?_
  refine s_iload_n (q := 19) 13 3 rfl rfl ?_
  refine s_icmp_eq (q := 22) (tgt := 235) 14 rfl rfl (fun hb => ?_) (fun hb => ?_)
  · skip
    have b4 := hb
    replace h := h.1 hb
    refine s_aload_n (q := 236) 145 0 rfl rfl ?_
    refine s_iload_n (q := 237) 146 1 rfl rfl ?_
    refine PW.pick [] rfl ?_
    exact n_callV (N := mX12_bringResult) (as := [(0, x1)]) (st := []) (q := 240) (d' := 0) 147 rfl uX12_bringResult kX12_501 rfl c1 h
  · skip
    have b4 := hb
    replace h := h.2 hb
    refine s_aload_n (q := 23) 15 0 rfl rfl ?_
    refine s_iload_n (q := 24) 16 1 rfl rfl ?_
    refine PW.pick [0, 1, 2, 3] rfl ?_
    exact n_callV (N := mX12_taker) (as := [(0, x1)]) (st := []) (q := 27) (d' := 2) 17 rfl uX12_taker kX12_476 rfl c1 h
theorem vX12_advance_27 {l : Launch} {G : pG} {bg : Nat × Nat} {n : Nat} {K : Int → Nat × Nat} {F E : Int → Int → Int} {Q : Option pV → pM → Prop} (x0 x1 x2 x3 s0 : Int) (h : ((¬ s0 = (-1) → (K x0).1 = 12 ∧ PC l G 1 mX12_missing (0, 0) [(2, x0), (0, x1), (0, s0)] (n, K, F, E) (fun r μ => PW l G 5 mX12_advance bg 44 [(0, (2, x0)), (1, (0, x1)), (2, (0, x2)), (3, (0, x3)), (4, (0, s0))] (r.toList ++ []) μ Q)) ∧ (s0 = (-1) → Q (some (0, 0)) (n, K, F, E)))) : PW l G 5 mX12_advance bg 27 [(0, (2, x0)), (1, (0, x1)), (2, (0, x2)), (3, (0, x3))] [(0, s0)] (n, K, F, E) Q := by
  refine s_istore (q := 29) (lv' := [(4, (0, s0)), (0, (2, x0)), (1, (0, x1)), (2, (0, x2)), (3, (0, x3))]) 18 rfl rfl ?_
  refine s_iload (q := 31) 19 0 rfl rfl ?_
  refine s_iconst (q := 32) 20 rfl ?_
  refine s_icmp_ne (q := 35) (tgt := 37) 21 rfl rfl (fun hb => ?_) (fun hb => ?_)
  · skip
    have b1 := hb
    replace h := h.1 hb
    refine s_aload_n (q := 38) 24 1 rfl rfl ?_
    refine s_iload_n (q := 39) 25 2 rfl rfl ?_
    refine s_iload (q := 41) 26 0 rfl rfl ?_
    obtain ⟨c2, h⟩ := h
    refine PW.pick [1, 2, 3, 4, 0] rfl ?_
    exact n_callV (N := mX12_missing) (as := [(0, x1), (0, s0)]) (st := []) (q := 44) (d' := 1) 27 rfl uX12_missing kX12_479 rfl c2 h
  · have hb := Classical.not_not.mp hb
    have b1 := hb
    replace h := h.2 hb
    refine s_iconst (q := 36) 22 rfl ?_
    exact s_iret 23 rfl rfl h
theorem vX12_advance_240 {l : Launch} {G : pG} {bg : Nat × Nat} {n : Nat} {K : Int → Nat × Nat} {F E : Int → Int → Int} {Q : Option pV → pM → Prop} (h : Q (some (0, 0)) (n, K, F, E)) : PW l G 5 mX12_advance bg 240 [] [] (n, K, F, E) Q := by
  refine s_iconst (q := 241) 148 rfl ?_
  exact s_iret 149 rfl rfl h
theorem vX12_advance_44 {l : Launch} {G : pG} {bg : Nat × Nat} {n : Nat} {K : Int → Nat × Nat} {F E : Int → Int → Int} {Q : Option pV → pM → Prop} (x0 x1 x2 x3 x4 s0 : Int) (h : (K x0).1 = 12 ∧ PC l G 3 mX12_sizeFor (0, 0) [(2, x0), (0, x1), (0, x4), (0, s0)] (n, K, F, E) (fun r μ => PW l G 5 mX12_advance bg 55 [(0, (2, x0)), (1, (0, x1)), (2, (0, x2)), (3, (0, x3)), (4, (0, x4)), (5, (0, s0))] (r.toList ++ []) μ Q)) : PW l G 5 mX12_advance bg 44 [(0, (2, x0)), (1, (0, x1)), (2, (0, x2)), (3, (0, x3)), (4, (0, x4))] [(0, s0)] (n, K, F, E) Q := by
  refine s_istore (q := 46) (lv' := [(5, (0, s0)), (0, (2, x0)), (1, (0, x1)), (2, (0, x2)), (3, (0, x3)), (4, (0, x4))]) 28 rfl rfl ?_
  refine s_aload_n (q := 47) 29 1 rfl rfl ?_
  refine s_iload_n (q := 48) 30 2 rfl rfl ?_
  refine s_iload (q := 50) 31 5 rfl rfl ?_
  refine s_iload (q := 52) 32 0 rfl rfl ?_
  obtain ⟨c1, h⟩ := h
  refine PW.pick [1, 2, 3, 4, 5, 0] rfl ?_
  exact n_callV (N := mX12_sizeFor) (as := [(0, x1), (0, x4), (0, s0)]) (st := []) (q := 55) (d' := 3) 33 rfl uX12_sizeFor kX12_482 rfl c1 h
theorem vX12_advance_55 {l : Launch} {G : pG} {bg : Nat × Nat} {n : Nat} {K : Int → Nat × Nat} {F E : Int → Int → Int} {Q : Option pV → pM → Prop} (x0 x1 x2 x3 x4 x5 s0 : Int) (h : (K x0).1 = 12 ∧ (K (F x0 48)).1 = 20 ∧ ((0 : Int) ≤ 0 ∧ 0 < ((K (F x0 48)).2 : Int)) ∧ ((0 : Int) ≤ 1 ∧ 1 < ((K (F x0 48)).2 : Int)) ∧ (0 : Int) ≤ F x0 35 ∧ (K (F x0 35)).1 = 21 ∧ ((0 : Int) ≤ 2 ∧ 2 < ((K (F x0 35)).2 : Int)) ∧ (∀ E1, E1 = pUp E (F x0 35) 2 (F x0 47) → ((0 : Int) ≤ 3 ∧ 3 < ((K (F x0 35)).2 : Int)) ∧ (∀ E2, E2 = pUp E1 (F x0 35) 3 (E (F x0 48) 0) → ((0 : Int) ≤ 4 ∧ 4 < ((K (F x0 35)).2 : Int)) ∧ (∀ E3, E3 = pUp E2 (F x0 35) 4 (E (F x0 48) 1) → (K (F x0 3)).1 = 20 ∧ ((0 : Int) ≤ 7 ∧ 7 < ((K (F x0 3)).2 : Int)) ∧ (-9223372036854775808 ≤ (E (F x0 3) 7) + 1 ∧ (E (F x0 3) 7) + 1 < 9223372036854775808) ∧ ((0 : Int) ≤ 8 ∧ 8 < ((K (F x0 35)).2 : Int)) ∧ (∀ E4, E4 = pUp E3 (F x0 35) 8 ((E (F x0 3) 7) + 1) → ((0 : Int) ≤ 5 ∧ 5 < ((K (F x0 3)).2 : Int)) ∧ ((0 : Int) ≤ 9 ∧ 9 < ((K (F x0 35)).2 : Int)) ∧ (∀ E5, E5 = pUp E4 (F x0 35) 9 (E (F x0 3) 5) → (K (F x0 46)).1 = 20 ∧ ((0 : Int) ≤ x4 ∧ x4 < ((K (F x0 46)).2 : Int)) ∧ (K (F x0 42)).1 = 20 ∧ ((0 : Int) ≤ x1 ∧ x1 < ((K (F x0 42)).2 : Int)) ∧ PC l G 0 mX12_many (0, 0) [(0, E (F x0 42) x1)] (n, K, F, E5) (fun r μ => PW l G 5 mX12_advance bg 104 [(0, (2, x0)), (1, (0, x1)), (2, (0, x2)), (3, (0, x3)), (4, (0, x4)), (5, (0, x5)), (6, (0, s0))] (r.toList ++ [(0, E (F x0 46) x4), (0, s0), (0, x4), (0, 0), (2, x0), (0, F x0 50), (2, x0)]) μ Q))))))) : PW l G 5 mX12_advance bg 55 [(0, (2, x0)), (1, (0, x1)), (2, (0, x2)), (3, (0, x3)), (4, (0, x4)), (5, (0, x5))] [(0, s0)] (n, K, F, E) Q := by
  refine s_istore (q := 57) (lv' := [(6, (0, s0)), (0, (2, x0)), (1, (0, x1)), (2, (0, x2)), (3, (0, x3)), (4, (0, x4)), (5, (0, x5))]) 34 rfl rfl ?_
  refine s_aload_n (q := 58) 35 1 rfl rfl ?_
  refine s_aload_n (q := 59) 36 1 rfl rfl ?_
  obtain ⟨c1, h⟩ := h
  refine n_getf (q := 62) (jj := 47) 37 12 47 rfl kX12_439 c1 ?_
  refine s_aload_n (q := 63) 38 1 rfl rfl ?_
  refine n_getf (q := 66) (jj := 48) 39 12 48 rfl kX12_124 c1 ?_
  refine s_iconst (q := 67) 40 rfl ?_
  obtain ⟨c2, h⟩ := h
  obtain ⟨c3, h⟩ := h
  refine n_iald (q := 68) 41 rfl c2 c3 ?_
  refine s_aload_n (q := 69) 42 1 rfl rfl ?_
  refine n_getf (q := 72) (jj := 48) 43 12 48 rfl kX12_124 c1 ?_
  refine s_iconst (q := 73) 44 rfl ?_
  obtain ⟨c4, h⟩ := h
  refine n_iald (q := 74) 45 rfl c2 c4 ?_
  refine n_callV (N := mX12_setTuple) (as := [(0, F x0 47), (0, E (F x0 48) 0), (0, E (F x0 48) 1)]) (st := []) (q := 77) (d' := 0) 46 rfl uX12_setTuple kX12_431 rfl c1 ?_
  show PW l G 0 mX12_setTuple (0, 0) 0 [(0, (2, x0)), (1, (0, F x0 47)), (2, (0, E (F x0 48) 0)), (3, (0, E (F x0 48) 1))] [] (n, K, F, E) _
  refine s_aload_n (q := 1) 0 0 rfl rfl ?_
  refine n_getf (q := 4) (jj := 35) 1 12 35 rfl kX12_97 c1 ?_
  refine s_iconst (q := 5) 2 rfl ?_
  refine s_iload_n (q := 6) 3 1 rfl rfl ?_
  refine s_i2l (q := 7) 4 rfl ?_
  obtain ⟨c5, h⟩ := h
  obtain ⟨c6, h⟩ := h
  obtain ⟨c7, h⟩ := h
  refine n_last (q := 8) 5 rfl c5 c6 c7 ?_
  refine PW.nameE (fun E1 eE1 => ?_)
  replace h := h E1 eE1
  refine s_aload_n (q := 9) 6 0 rfl rfl ?_
  refine n_getf (q := 12) (jj := 35) 7 12 35 rfl kX12_97 c1 ?_
  refine s_iconst (q := 13) 8 rfl ?_
  refine s_iload_n (q := 14) 9 2 rfl rfl ?_
  refine s_i2l (q := 15) 10 rfl ?_
  obtain ⟨c8, h⟩ := h
  refine n_last (q := 16) 11 rfl c5 c6 c8 ?_
  refine PW.nameE (fun E2 eE2 => ?_)
  replace h := h E2 eE2
  refine s_aload_n (q := 17) 12 0 rfl rfl ?_
  refine n_getf (q := 20) (jj := 35) 13 12 35 rfl kX12_97 c1 ?_
  refine s_iconst (q := 21) 14 rfl ?_
  refine s_iload_n (q := 22) 15 3 rfl rfl ?_
  refine s_i2l (q := 23) 16 rfl ?_
  obtain ⟨c9, h⟩ := h
  refine n_last (q := 24) 17 rfl c5 c6 c9 ?_
  refine PW.nameE (fun E3 eE3 => ?_)
  replace h := h E3 eE3
  refine s_aload_n (q := 25) 18 0 rfl rfl ?_
  refine n_getf (q := 28) (jj := 35) 19 12 35 rfl kX12_97 c1 ?_
  refine s_bipush (q := 30) 20 rfl ?_
  refine s_aload_n (q := 31) 21 0 rfl rfl ?_
  refine n_getf (q := 34) (jj := 3) 22 12 3 rfl kX12_13 c1 ?_
  refine s_bipush (q := 36) 23 rfl ?_
  obtain ⟨c10, h⟩ := h
  obtain ⟨c11, h⟩ := h
  refine n_iald (q := 37) 24 rfl c10 c11 ?_
  refine PW.top (b := E (F x0 3) 7) (by refine (congrFun (congrFun eE3 _) _).trans ((pUp_K c6 c10 (by decide)).trans ?_); refine (congrFun (congrFun eE2 _) _).trans ((pUp_K c6 c10 (by decide)).trans ?_); exact (congrFun (congrFun eE1 _) _).trans (pUp_K c6 c10 (by decide))) ?_
  refine s_i2l (q := 38) 25 rfl ?_
  refine s_lconst (q := 39) (x := 1) 26 rfl ?_
  obtain ⟨c12, h⟩ := h
  refine n_ladd (q := 40) 27 rfl c12 ?_
  obtain ⟨c13, h⟩ := h
  refine n_last (q := 41) 28 rfl c5 c6 c13 ?_
  refine PW.nameE (fun E4 eE4 => ?_)
  replace h := h E4 eE4
  refine s_aload_n (q := 42) 29 0 rfl rfl ?_
  refine n_getf (q := 45) (jj := 35) 30 12 35 rfl kX12_97 c1 ?_
  refine s_bipush (q := 47) 31 rfl ?_
  refine s_aload_n (q := 48) 32 0 rfl rfl ?_
  refine n_getf (q := 51) (jj := 3) 33 12 3 rfl kX12_13 c1 ?_
  refine s_iconst (q := 52) 34 rfl ?_
  obtain ⟨c14, h⟩ := h
  refine n_iald (q := 53) 35 rfl c10 c14 ?_
  refine PW.top (b := E (F x0 3) 5) (by refine (congrFun (congrFun eE4 _) _).trans ((pUp_K c6 c10 (by decide)).trans ?_); refine (congrFun (congrFun eE3 _) _).trans ((pUp_K c6 c10 (by decide)).trans ?_); refine (congrFun (congrFun eE2 _) _).trans ((pUp_K c6 c10 (by decide)).trans ?_); exact (congrFun (congrFun eE1 _) _).trans (pUp_K c6 c10 (by decide))) ?_
  refine s_i2l (q := 54) 36 rfl ?_
  obtain ⟨c15, h⟩ := h
  refine n_last (q := 55) 37 rfl c5 c6 c15 ?_
  refine PW.nameE (fun E5 eE5 => ?_)
  replace h := h E5 eE5
  refine s_vret 38 rfl rfl ?_
  show PW l G 5 mX12_advance bg 77 [(6, (0, s0)), (0, (2, x0)), (1, (0, x1)), (2, (0, x2)), (3, (0, x3)), (4, (0, x4)), (5, (0, x5))] [] (n, K, F, E5) Q
  refine s_aload_n (q := 78) 47 1 rfl rfl ?_
  refine s_dup (q := 79) 48 rfl ?_
  refine n_getf (q := 82) (jj := 50) 49 12 50 rfl kX12_485 c1 ?_
  refine s_aload_n (q := 83) 50 1 rfl rfl ?_
  refine s_iconst (q := 84) 51 rfl ?_
  refine s_iload (q := 86) 52 5 rfl rfl ?_
  refine s_iload (q := 88) 53 0 rfl rfl ?_
  refine s_aload_n (q := 89) 54 1 rfl rfl ?_
  refine n_getf (q := 92) (jj := 46) 55 12 46 rfl kX12_121 c1 ?_
  refine s_iload (q := 94) 56 5 rfl rfl ?_
  obtain ⟨c16, h⟩ := h
  obtain ⟨c17, h⟩ := h
  refine n_iald (q := 95) 57 rfl c16 c17 ?_
  refine PW.top (b := E (F x0 46) x4) (by refine (congrFun (congrFun eE5 _) _).trans ((pUp_K c6 c16 (by decide)).trans ?_); refine (congrFun (congrFun eE4 _) _).trans ((pUp_K c6 c16 (by decide)).trans ?_); refine (congrFun (congrFun eE3 _) _).trans ((pUp_K c6 c16 (by decide)).trans ?_); refine (congrFun (congrFun eE2 _) _).trans ((pUp_K c6 c16 (by decide)).trans ?_); exact (congrFun (congrFun eE1 _) _).trans (pUp_K c6 c16 (by decide))) ?_
  refine s_aload_n (q := 96) 58 1 rfl rfl ?_
  refine n_getf (q := 99) (jj := 42) 59 12 42 rfl kX12_109 c1 ?_
  refine s_iload_n (q := 100) 60 2 rfl rfl ?_
  obtain ⟨c18, h⟩ := h
  obtain ⟨c19, h⟩ := h
  refine n_iald (q := 101) 61 rfl c18 c19 ?_
  refine PW.top (b := E (F x0 42) x1) (by refine (congrFun (congrFun eE5 _) _).trans ((pUp_K c6 c18 (by decide)).trans ?_); refine (congrFun (congrFun eE4 _) _).trans ((pUp_K c6 c18 (by decide)).trans ?_); refine (congrFun (congrFun eE3 _) _).trans ((pUp_K c6 c18 (by decide)).trans ?_); refine (congrFun (congrFun eE2 _) _).trans ((pUp_K c6 c18 (by decide)).trans ?_); exact (congrFun (congrFun eE1 _) _).trans (pUp_K c6 c18 (by decide))) ?_
  refine PW.pick [1, 2, 3, 4, 5, 6, 0] rfl ?_
  exact n_callS (N := mX12_many) (as := [(0, E (F x0 42) x1)]) (st := [(0, E (F x0 46) x4), (0, s0), (0, x4), (0, 0), (2, x0), (0, F x0 50), (2, x0)]) (q := 104) (d' := 0) 62 rfl uX12_many kX12_488 rfl h
theorem vX12_advance_104 {l : Launch} {G : pG} {bg : Nat × Nat} {n : Nat} {K : Int → Nat × Nat} {F E : Int → Int → Int} {Q : Option pV → pM → Prop} (x0 x1 x2 x3 x4 x5 x6 s0 s1 s2 s3 s4 s5 s6 s7 : Int) (h : (K s5).1 = 12 ∧ PC l G 4 mX12_tells (0, 0) [(2, s5), (0, s4), (0, s3), (0, s2), (0, s1), (0, s0), (1, x6)] (n, K, F, E) (fun r μ => PW l G 5 mX12_advance bg 110 [(0, (2, x0)), (1, (0, x1)), (2, (0, x2)), (3, (0, x3)), (4, (0, x4)), (5, (0, x5))] (r.toList ++ [(0, s6), (2, s7)]) μ Q)) : PW l G 5 mX12_advance bg 104 [(0, (2, x0)), (1, (0, x1)), (2, (0, x2)), (3, (0, x3)), (4, (0, x4)), (5, (0, x5)), (6, (0, x6))] [(0, s0), (0, s1), (0, s2), (0, s3), (0, s4), (2, s5), (0, s6), (2, s7)] (n, K, F, E) Q := by
  refine s_iload (q := 106) 63 6 rfl rfl ?_
  refine s_i2l (q := 107) 64 rfl ?_
  obtain ⟨c1, h⟩ := h
  refine PW.pick [0, 1, 2, 3, 4, 5] rfl ?_
  exact n_callV (N := mX12_tells) (as := [(0, s4), (0, s3), (0, s2), (0, s1), (0, s0), (1, x6)]) (st := [(0, s6), (2, s7)]) (q := 110) (d' := 4) 65 rfl uX12_tells kX12_435 rfl c1 h
theorem vX12_advance_110 {l : Launch} {G : pG} {bg : Nat × Nat} {n : Nat} {K : Int → Nat × Nat} {F E : Int → Int → Int} {Q : Option pV → pM → Prop} (x0 x1 x2 x3 x4 x5 s0 s1 s2 : Int) (h : (-2147483648 ≤ pBnd s0 0 99 ∧ pBnd s0 0 99 < 2147483648) ∧ (-2147483648 ≤ s1 + (pBnd s0 0 99) ∧ s1 + (pBnd s0 0 99) < 2147483648) ∧ (K s2).1 = 12 ∧ (∀ F1, F1 = pUp F s2 50 (s1 + (pBnd s0 0 99)) → (K x0).1 = 12 ∧ ((F1 x0 50 ≤ x2 → (K (F1 x0 46)).1 = 20 ∧ ((0 : Int) ≤ x4 ∧ x4 < ((K (F1 x0 46)).2 : Int)) ∧ (0 : Int) ≤ F1 x0 46 ∧ (∀ E2, E2 = pUp E (F1 x0 46) x4 (w32 ((E (F1 x0 46) x4) + 1)) → ((x5 = (-1) → PC l G 2 mX12_holds (0, 0) [(2, x0), (0, x1), (0, x4)] (n, K, F1, E2) (fun r μ => PW l G 5 mX12_advance bg 203 [(0, (2, x0)), (1, (0, x1)), (2, (0, x2)), (3, (0, x3)), (4, (0, x4))] (r.toList ++ []) μ Q)) ∧ (¬ (x5 = (-1)) → (0 : Int) ≤ F1 x0 43 ∧ (K (F1 x0 43)).1 = 20 ∧ ((0 : Int) ≤ x1 ∧ x1 < ((K (F1 x0 43)).2 : Int)) ∧ (∀ E3, E3 = pUp E2 (F1 x0 43) x1 x4 → (0 : Int) ≤ F1 x0 44 ∧ (K (F1 x0 44)).1 = 20 ∧ ((0 : Int) ≤ x1 ∧ x1 < ((K (F1 x0 44)).2 : Int)) ∧ (∀ E4, E4 = pUp E3 (F1 x0 44) x1 x5 → (0 : Int) ≤ F1 x0 45 ∧ (K (F1 x0 45)).1 = 20 ∧ ((0 : Int) ≤ x1 ∧ x1 < ((K (F1 x0 45)).2 : Int)) ∧ (∀ E5, E5 = pUp E4 (F1 x0 45) x1 0 → (-2147483648 ≤ x1 + 1 ∧ x1 + 1 < 2147483648) ∧ ((x1 + 1 ≤ F1 x0 53 → (∀ F6, F6 = pUp F1 x0 53 (F1 x0 53) → Q (some (0, 1)) (n, K, F6, E5))) ∧ (¬ (x1 + 1 ≤ F1 x0 53) → (∀ F7, F7 = pUp F1 x0 53 (x1 + 1) → Q (some (0, 1)) (n, K, F7, E5))))))))))) ∧ (¬ (F1 x0 50 ≤ x2) → Q (some (0, 2)) (n, K, F1, E))))) : PW l G 5 mX12_advance bg 110 [(0, (2, x0)), (1, (0, x1)), (2, (0, x2)), (3, (0, x3)), (4, (0, x4)), (5, (0, x5))] [(1, s0), (0, s1), (2, s2)] (n, K, F, E) Q := by
  refine s_iconst (q := 111) 66 rfl ?_
  refine s_bipush (q := 113) 67 rfl ?_
  obtain ⟨c1, h⟩ := h
  refine n_callS (N := mX12_bounded) (as := [(1, s0), (0, 0), (0, 99)]) (st := [(0, s1), (2, s2)]) (q := 116) (d' := 0) 68 rfl uX12_bounded kX12_491 rfl (pX12_bounded c1 ?_)
  show PW l G 5 mX12_advance bg 116 [(0, (2, x0)), (1, (0, x1)), (2, (0, x2)), (3, (0, x3)), (4, (0, x4)), (5, (0, x5))] [(0, pBnd s0 0 99), (0, s1), (2, s2)] (n, K, F, E) Q
  obtain ⟨c2, h⟩ := h
  refine n_iadd (q := 117) 69 rfl c2 ?_
  obtain ⟨c3, h⟩ := h
  refine n_putf (q := 120) (jj := 50) 70 12 50 rfl kX12_485 c3 (Or.inl rfl) ?_
  refine PW.nameF (fun F1 eF1 => ?_)
  replace h := h F1 eF1
  refine s_aload_n (q := 121) 71 0 rfl rfl ?_
  obtain ⟨c4, h⟩ := h
  refine n_getf (q := 124) (jj := 50) 72 12 50 rfl kX12_485 c4 ?_
  refine s_iload_n (q := 125) 73 2 rfl rfl ?_
  refine s_icmp_le (q := 128) (tgt := 130) 74 rfl rfl (fun hb => ?_) (fun hb => ?_)
  · skip
    have b5 := hb
    replace h := h.1 hb
    refine s_aload_n (q := 131) 77 0 rfl rfl ?_
    refine n_getf (q := 134) (jj := 46) 78 12 46 rfl kX12_121 c4 ?_
    refine s_iload (q := 136) 79 4 rfl rfl ?_
    refine s_dup2 (q := 137) 80 rfl ?_
    obtain ⟨c6, h⟩ := h
    obtain ⟨c7, h⟩ := h
    refine n_iald (q := 138) 81 rfl c6 c7 ?_
    refine s_iconst (q := 139) 82 rfl ?_
    refine s_iadd (q := 140) 83 rfl ?_
    obtain ⟨c8, h⟩ := h
    refine n_iast (q := 141) 84 rfl c8 c6 c7 ?_
    refine PW.nameE (fun E2 eE2 => ?_)
    replace h := h E2 eE2
    refine s_iload (q := 143) 85 5 rfl rfl ?_
    refine s_iconst (q := 144) 86 rfl ?_
    refine s_icmp_eq (q := 147) (tgt := 196) 87 rfl rfl (fun hb => ?_) (fun hb => ?_)
    · skip
      have b9 := hb
      replace h := h.1 hb
      refine s_aload_n (q := 197) 119 0 rfl rfl ?_
      refine s_iload_n (q := 198) 120 1 rfl rfl ?_
      refine s_iload (q := 200) 121 4 rfl rfl ?_
      refine PW.pick [0, 1, 2, 3, 4] rfl ?_
      exact n_callV (N := mX12_holds) (as := [(0, x1), (0, x4)]) (st := []) (q := 203) (d' := 2) 122 rfl uX12_holds kX12_498 rfl c4 h
    · skip
      have b9 := hb
      replace h := h.2 hb
      refine s_aload_n (q := 148) 88 0 rfl rfl ?_
      refine n_getf (q := 151) (jj := 43) 89 12 43 rfl kX12_112 c4 ?_
      refine s_iload_n (q := 152) 90 1 rfl rfl ?_
      refine s_iload (q := 154) 91 4 rfl rfl ?_
      obtain ⟨c10, h⟩ := h
      obtain ⟨c11, h⟩ := h
      obtain ⟨c12, h⟩ := h
      refine n_iast (q := 155) 92 rfl c10 c11 c12 ?_
      refine PW.nameE (fun E3 eE3 => ?_)
      replace h := h E3 eE3
      refine s_aload_n (q := 156) 93 0 rfl rfl ?_
      refine n_getf (q := 159) (jj := 44) 94 12 44 rfl kX12_115 c4 ?_
      refine s_iload_n (q := 160) 95 1 rfl rfl ?_
      refine s_iload (q := 162) 96 5 rfl rfl ?_
      obtain ⟨c13, h⟩ := h
      obtain ⟨c14, h⟩ := h
      obtain ⟨c15, h⟩ := h
      refine n_iast (q := 163) 97 rfl c13 c14 c15 ?_
      refine PW.nameE (fun E4 eE4 => ?_)
      replace h := h E4 eE4
      refine s_aload_n (q := 164) 98 0 rfl rfl ?_
      refine n_getf (q := 167) (jj := 45) 99 12 45 rfl kX12_118 c4 ?_
      refine s_iload_n (q := 168) 100 1 rfl rfl ?_
      refine s_iconst (q := 169) 101 rfl ?_
      obtain ⟨c16, h⟩ := h
      obtain ⟨c17, h⟩ := h
      obtain ⟨c18, h⟩ := h
      refine n_iast (q := 170) 102 rfl c16 c17 c18 ?_
      refine PW.nameE (fun E5 eE5 => ?_)
      replace h := h E5 eE5
      refine s_aload_n (q := 171) 103 0 rfl rfl ?_
      refine s_iload_n (q := 172) 104 1 rfl rfl ?_
      refine s_iconst (q := 173) 105 rfl ?_
      obtain ⟨c19, h⟩ := h
      refine n_iadd (q := 174) 106 rfl c19 ?_
      refine s_aload_n (q := 175) 107 0 rfl rfl ?_
      refine n_getf (q := 178) (jj := 53) 108 12 53 rfl kX12_495 c4 ?_
      refine s_icmp_le (q := 181) (tgt := 187) 109 rfl rfl (fun hb => ?_) (fun hb => ?_)
      · skip
        have b20 := hb
        replace h := h.1 hb
        refine s_aload_n (q := 188) 114 0 rfl rfl ?_
        refine n_getf (q := 191) (jj := 53) 115 12 53 rfl kX12_495 c4 ?_
        refine n_putf (q := 194) (jj := 53) 116 12 53 rfl kX12_495 c4 (Or.inl rfl) ?_
        refine PW.nameF (fun F6 eF6 => ?_)
        replace h := h F6 eF6
        refine s_iconst (q := 195) 117 rfl ?_
        exact s_iret 118 rfl rfl h
      · skip
        have b20 := hb
        replace h := h.2 hb
        refine s_iload_n (q := 182) 110 1 rfl rfl ?_
        refine s_iconst (q := 183) 111 rfl ?_
        refine n_iadd (q := 184) 112 rfl c19 ?_
        refine s_goto (tgt := 191) 113 rfl rfl ?_
        refine n_putf (q := 194) (jj := 53) 116 12 53 rfl kX12_495 c4 (Or.inl rfl) ?_
        refine PW.nameF (fun F7 eF7 => ?_)
        replace h := h F7 eF7
        refine s_iconst (q := 195) 117 rfl ?_
        exact s_iret 118 rfl rfl h
  · skip
    have b5 := hb
    replace h := h.2 hb
    refine s_iconst (q := 129) 75 rfl ?_
    exact s_iret 76 rfl rfl h
theorem vX12_advance_203 {l : Launch} {G : pG} {bg : Nat × Nat} {n : Nat} {K : Int → Nat × Nat} {F E : Int → Int → Int} {Q : Option pV → pM → Prop} (x0 x1 x2 x3 x4 s0 : Int) (h : ((¬ s0 = 0 → (K x0).1 = 12 ∧ (K (F x0 42)).1 = 20 ∧ ((0 : Int) ≤ x1 ∧ x1 < ((K (F x0 42)).2 : Int)) ∧ (0 : Int) ≤ F x0 42 ∧ (∀ E1, E1 = pUp E (F x0 42) x1 (bOr (E (F x0 42) x1) (bShl 1 x4)) → (K (F x0 46)).1 = 20 ∧ ((0 : Int) ≤ x4 ∧ x4 < ((K (F x0 46)).2 : Int)) ∧ (0 : Int) ≤ F x0 46 ∧ (∀ E2, E2 = pUp E1 (F x0 46) x4 (w32 ((E1 (F x0 46) x4) - 1)) → PW l G 5 mX12_advance bg 12 [(0, (2, x0)), (1, (0, x1)), (2, (0, x2)), (3, (0, x3))] [] (n, K, F, E2) Q))) ∧ (s0 = 0 → Q (some (0, 0)) (n, K, F, E)))) : PW l G 5 mX12_advance bg 203 [(0, (2, x0)), (1, (0, x1)), (2, (0, x2)), (3, (0, x3)), (4, (0, x4))] [(0, s0)] (n, K, F, E) Q := by
  refine s_if_ne (q := 206) (tgt := 208) 123 rfl rfl (fun hb => ?_) (fun hb => ?_)
  · skip
    have b1 := hb
    replace h := h.1 hb
    refine s_aload_n (q := 209) 126 0 rfl rfl ?_
    obtain ⟨c2, h⟩ := h
    refine n_getf (q := 212) (jj := 42) 127 12 42 rfl kX12_109 c2 ?_
    refine s_iload_n (q := 213) 128 1 rfl rfl ?_
    refine s_dup2 (q := 214) 129 rfl ?_
    obtain ⟨c3, h⟩ := h
    obtain ⟨c4, h⟩ := h
    refine n_iald (q := 215) 130 rfl c3 c4 ?_
    refine s_iconst (q := 216) 131 rfl ?_
    refine s_iload (q := 218) 132 4 rfl rfl ?_
    refine s_ishl (q := 219) 133 rfl ?_
    refine s_ior (q := 220) 134 rfl ?_
    obtain ⟨c5, h⟩ := h
    refine n_iast (q := 221) 135 rfl c5 c3 c4 ?_
    refine PW.nameE (fun E1 eE1 => ?_)
    replace h := h E1 eE1
    refine s_aload_n (q := 222) 136 0 rfl rfl ?_
    refine n_getf (q := 225) (jj := 46) 137 12 46 rfl kX12_121 c2 ?_
    refine s_iload (q := 227) 138 4 rfl rfl ?_
    refine s_dup2 (q := 228) 139 rfl ?_
    obtain ⟨c6, h⟩ := h
    obtain ⟨c7, h⟩ := h
    refine n_iald (q := 229) 140 rfl c6 c7 ?_
    refine s_iconst (q := 230) 141 rfl ?_
    refine s_isub (q := 231) 142 rfl ?_
    obtain ⟨c8, h⟩ := h
    refine n_iast (q := 232) 143 rfl c8 c6 c7 ?_
    refine PW.nameE (fun E2 eE2 => ?_)
    replace h := h E2 eE2
    refine s_goto (tgt := 12) 144 rfl rfl ?_
    refine PW.pick [0, 1, 2, 3] rfl ?_
    exact h
  · have hb := Classical.not_not.mp hb
    have b1 := hb
    replace h := h.2 hb
    refine s_iconst (q := 207) 124 rfl ?_
    exact s_iret 125 rfl rfl h
theorem vX12_goBehind_0 {l : Launch} {G : pG} {bg : Nat × Nat} {n : Nat} {K : Int → Nat × Nat} {F E : Int → Int → Int} {Q : Option pV → pM → Prop} (x0 x1 : Int) (h : (K x0).1 = 12 ∧ (K (F x0 43)).1 = 20 ∧ ((0 : Int) ≤ x1 ∧ x1 < ((K (F x0 43)).2 : Int)) ∧ (K (F x0 44)).1 = 20 ∧ ((0 : Int) ≤ x1 ∧ x1 < ((K (F x0 44)).2 : Int)) ∧ PC l G 2 mX12_wanted (0, 0) [(2, x0), (0, x1), (0, E (F x0 43) x1), (0, E (F x0 44) x1)] (n, K, F, E) (fun r μ => PW l G 3 mX12_goBehind bg 21 [(0, (2, x0)), (1, (0, x1)), (2, (0, E (F x0 43) x1)), (3, (0, E (F x0 44) x1))] (r.toList ++ []) μ Q)) : PW l G 3 mX12_goBehind bg 0 [(0, (2, x0)), (1, (0, x1))] [] (n, K, F, E) Q := by
  refine s_aload_n (q := 1) 0 0 rfl rfl ?_
  obtain ⟨c1, h⟩ := h
  refine n_getf (q := 4) (jj := 43) 1 12 43 rfl kX12_112 c1 ?_
  refine s_iload_n (q := 5) 2 1 rfl rfl ?_
  obtain ⟨c2, h⟩ := h
  obtain ⟨c3, h⟩ := h
  refine n_iald (q := 6) 3 rfl c2 c3 ?_
  refine s_istore_n (q := 7) (lv' := [(2, (0, E (F x0 43) x1)), (0, (2, x0)), (1, (0, x1))]) 4 rfl rfl ?_
  refine s_aload_n (q := 8) 5 1 rfl rfl ?_
  refine n_getf (q := 11) (jj := 44) 6 12 44 rfl kX12_115 c1 ?_
  refine s_iload_n (q := 12) 7 2 rfl rfl ?_
  obtain ⟨c4, h⟩ := h
  obtain ⟨c5, h⟩ := h
  refine n_iald (q := 13) 8 rfl c4 c5 ?_
  refine s_istore_n (q := 14) (lv' := [(3, (0, E (F x0 44) x1)), (2, (0, E (F x0 43) x1)), (0, (2, x0)), (1, (0, x1))]) 9 rfl rfl ?_
  refine s_aload_n (q := 15) 10 2 rfl rfl ?_
  refine s_iload_n (q := 16) 11 3 rfl rfl ?_
  refine s_iload_n (q := 17) 12 1 rfl rfl ?_
  refine s_iload_n (q := 18) 13 0 rfl rfl ?_
  refine PW.pick [2, 3, 1, 0] rfl ?_
  exact n_callV (N := mX12_wanted) (as := [(0, x1), (0, E (F x0 43) x1), (0, E (F x0 44) x1)]) (st := []) (q := 21) (d' := 2) 14 rfl uX12_wanted kX12_470 rfl c1 h
theorem vX12_goBehind_21 {l : Launch} {G : pG} {bg : Nat × Nat} {n : Nat} {K : Int → Nat × Nat} {F E : Int → Int → Int} {Q : Option pV → pM → Prop} (x0 x1 x2 x3 s0 : Int) (h : PW l G 3 mX12_goBehind bg 23 [(0, (2, x0)), (1, (0, x1)), (2, (0, x2)), (3, (0, x3)), (4, (0, s0))] [] (n, K, F, E) Q) : PW l G 3 mX12_goBehind bg 21 [(0, (2, x0)), (1, (0, x1)), (2, (0, x2)), (3, (0, x3))] [(0, s0)] (n, K, F, E) Q := by
  refine s_istore (q := 23) (lv' := [(4, (0, s0)), (0, (2, x0)), (1, (0, x1)), (2, (0, x2)), (3, (0, x3))]) 15 rfl rfl ?_
  refine PW.pick [1, 2, 3, 4, 0] rfl ?_
  exact h
theorem vX12_goBehind_23 {l : Launch} {G : pG} {bg : Nat × Nat} {n : Nat} {K : Int → Nat × Nat} {F E : Int → Int → Int} {Q : Option pV → pM → Prop} (x0 x1 x2 x3 x4 : Int) (h : (K x0).1 = 12 ∧ (K (F x0 45)).1 = 20 ∧ ((0 : Int) ≤ x1 ∧ x1 < ((K (F x0 45)).2 : Int)) ∧ (-2147483648 ≤ 15 + x3 ∧ 15 + x3 < 2147483648) ∧ (K (F x0 3)).1 = 20 ∧ ((0 : Int) ≤ 15 + x3 ∧ 15 + x3 < ((K (F x0 3)).2 : Int)) ∧ ((E (F x0 3) (15 + x3) ≤ E (F x0 45) x1 → Q (some (0, 0)) (n, K, F, E)) ∧ (¬ (E (F x0 3) (15 + x3) ≤ E (F x0 45) x1) → (-2147483648 ≤ 27 * x3 ∧ 27 * x3 < 2147483648) ∧ (-2147483648 ≤ 42 + (27 * x3) ∧ 42 + (27 * x3) < 2147483648) ∧ (-2147483648 ≤ 3 * (E (F x0 45) x1) ∧ 3 * (E (F x0 45) x1) < 2147483648) ∧ (-2147483648 ≤ (42 + (27 * x3)) + (3 * (E (F x0 45) x1)) ∧ (42 + (27 * x3)) + (3 * (E (F x0 45) x1)) < 2147483648) ∧ (∀ a1, a1 = (42 + (27 * x3)) + (3 * (E (F x0 45) x1)) → (-2147483648 ≤ (E (F x0 45) x1) + 1 ∧ (E (F x0 45) x1) + 1 < 2147483648) ∧ (0 : Int) ≤ F x0 45 ∧ (∀ E2, E2 = pUp E (F x0 45) x1 ((E (F x0 45) x1) + 1) → PC l G 1 mX12_fieldIn (0, 0) [(2, x0), (0, x2), (0, x3)] (n, K, F, E2) (fun r μ => PW l G 3 mX12_goBehind bg 75 [(0, (2, x0)), (1, (0, x1)), (2, (0, x2)), (3, (0, x3)), (4, (0, x4)), (5, (0, a1))] (r.toList ++ [(0, a1), (2, F x0 3)]) μ Q)))))) : PW l G 3 mX12_goBehind bg 23 [(0, (2, x0)), (1, (0, x1)), (2, (0, x2)), (3, (0, x3)), (4, (0, x4))] [] (n, K, F, E) Q := by
  refine s_aload_n (q := 24) 16 0 rfl rfl ?_
  obtain ⟨c1, h⟩ := h
  refine n_getf (q := 27) (jj := 45) 17 12 45 rfl kX12_118 c1 ?_
  refine s_iload_n (q := 28) 18 1 rfl rfl ?_
  obtain ⟨c2, h⟩ := h
  obtain ⟨c3, h⟩ := h
  refine n_iald (q := 29) 19 rfl c2 c3 ?_
  refine s_aload_n (q := 30) 20 0 rfl rfl ?_
  refine n_getf (q := 33) (jj := 3) 21 12 3 rfl kX12_13 c1 ?_
  refine s_bipush (q := 35) 22 rfl ?_
  refine s_iload_n (q := 36) 23 3 rfl rfl ?_
  obtain ⟨c4, h⟩ := h
  refine n_iadd (q := 37) 24 rfl c4 ?_
  obtain ⟨c5, h⟩ := h
  obtain ⟨c6, h⟩ := h
  refine n_iald (q := 38) 25 rfl c5 c6 ?_
  refine s_icmp_ge (q := 41) (tgt := 175) 26 rfl rfl (fun hb => ?_) (fun hb => ?_)
  · skip
    have b7 := hb
    replace h := h.1 hb
    refine s_iconst (q := 176) 119 rfl ?_
    exact s_zret 120 rfl rfl (by decide) h
  · skip
    have b7 := hb
    replace h := h.2 hb
    refine s_iload_n (q := 42) 27 3 rfl rfl ?_
    refine s_aload_n (q := 43) 28 0 rfl rfl ?_
    refine n_getf (q := 46) (jj := 45) 29 12 45 rfl kX12_118 c1 ?_
    refine s_iload_n (q := 47) 30 1 rfl rfl ?_
    refine n_iald (q := 48) 31 rfl c2 c3 ?_
    refine n_callS (N := mX12_tupleAt) (as := [(0, x3), (0, E (F x0 45) x1)]) (st := []) (q := 51) (d' := 0) 32 rfl uX12_tupleAt kX12_225 rfl ?_
    show PW l G 0 mX12_tupleAt (0, 0) 0 [(0, (0, x3)), (1, (0, E (F x0 45) x1))] [] (n, K, F, E) _
    refine s_bipush (q := 2) 0 rfl ?_
    refine s_bipush (q := 4) 1 rfl ?_
    refine s_iload_n (q := 5) 2 0 rfl rfl ?_
    obtain ⟨c8, h⟩ := h
    refine n_imul (q := 6) 3 rfl c8 ?_
    obtain ⟨c9, h⟩ := h
    refine n_iadd (q := 7) 4 rfl c9 ?_
    refine s_iconst (q := 8) 5 rfl ?_
    refine s_iload_n (q := 9) 6 1 rfl rfl ?_
    obtain ⟨c10, h⟩ := h
    refine n_imul (q := 10) 7 rfl c10 ?_
    obtain ⟨c11, h⟩ := h
    refine n_iadd (q := 11) 8 rfl c11 ?_
    refine PW.name (fun a1 ea1 => ?_)
    replace h := h a1 ea1
    refine s_iret 9 rfl rfl ?_
    show PW l G 3 mX12_goBehind bg 51 [(0, (2, x0)), (1, (0, x1)), (2, (0, x2)), (3, (0, x3)), (4, (0, x4))] [(0, a1)] (n, K, F, E) Q
    refine s_istore (q := 53) (lv' := [(5, (0, a1)), (0, (2, x0)), (1, (0, x1)), (2, (0, x2)), (3, (0, x3)), (4, (0, x4))]) 33 rfl rfl ?_
    refine s_aload_n (q := 54) 34 1 rfl rfl ?_
    refine n_getf (q := 57) (jj := 45) 35 12 45 rfl kX12_118 c1 ?_
    refine s_iload_n (q := 58) 36 2 rfl rfl ?_
    refine s_dup2 (q := 59) 37 rfl ?_
    refine n_iald (q := 60) 38 rfl c2 c3 ?_
    refine s_iconst (q := 61) 39 rfl ?_
    obtain ⟨c12, h⟩ := h
    refine n_iadd (q := 62) 40 rfl c12 ?_
    obtain ⟨c13, h⟩ := h
    refine n_iast (q := 63) 41 rfl c13 c2 c3 ?_
    refine PW.nameE (fun E2 eE2 => ?_)
    replace h := h E2 eE2
    refine s_aload_n (q := 64) 42 1 rfl rfl ?_
    refine n_getf (q := 67) (jj := 3) 43 12 3 rfl kX12_13 c1 ?_
    refine s_iload (q := 69) 44 0 rfl rfl ?_
    refine s_aload_n (q := 70) 45 1 rfl rfl ?_
    refine s_iload_n (q := 71) 46 3 rfl rfl ?_
    refine s_iload_n (q := 72) 47 4 rfl rfl ?_
    refine PW.pick [1, 2, 3, 4, 5, 0] rfl ?_
    exact n_callV (N := mX12_fieldIn) (as := [(0, x2), (0, x3)]) (st := [(0, a1), (2, F x0 3)]) (q := 75) (d' := 1) 48 rfl uX12_fieldIn kX12_461 rfl c1 h
theorem vX12_goBehind_75 {l : Launch} {G : pG} {bg : Nat × Nat} {n : Nat} {K : Int → Nat × Nat} {F E : Int → Int → Int} {Q : Option pV → pM → Prop} (x0 x1 x2 x3 x4 x5 s0 s1 s2 : Int) (h : (-2147483648 ≤ s1 + s0 ∧ s1 + s0 < 2147483648) ∧ (K s2).1 = 20 ∧ ((0 : Int) ≤ s1 + s0 ∧ s1 + s0 < ((K s2).2 : Int)) ∧ ((¬ (E s2 (s1 + s0)) = x4 → PW l G 3 mX12_goBehind bg 23 [(0, (2, x0)), (1, (0, x1)), (2, (0, x2)), (3, (0, x3)), (4, (0, x4))] [] (n, K, F, E) Q) ∧ ((E s2 (s1 + s0)) = x4 → PW l G 3 mX12_goBehind bg 85 [(0, (2, x0)), (1, (0, x1)), (2, (0, x2)), (3, (0, x3)), (5, (0, x5)), (6, (0, 0))] [] (n, K, F, E) Q))) : PW l G 3 mX12_goBehind bg 75 [(0, (2, x0)), (1, (0, x1)), (2, (0, x2)), (3, (0, x3)), (4, (0, x4)), (5, (0, x5))] [(0, s0), (0, s1), (2, s2)] (n, K, F, E) Q := by
  obtain ⟨c1, h⟩ := h
  refine n_iadd (q := 76) 49 rfl c1 ?_
  obtain ⟨c2, h⟩ := h
  obtain ⟨c3, h⟩ := h
  refine n_iald (q := 77) 50 rfl c2 c3 ?_
  refine s_iload (q := 79) 51 4 rfl rfl ?_
  refine s_icmp_ne (q := 82) (tgt := 172) 52 rfl rfl (fun hb => ?_) (fun hb => ?_)
  · skip
    have b4 := hb
    replace h := h.1 hb
    refine s_goto (tgt := 23) 118 rfl rfl ?_
    refine PW.pick [0, 1, 2, 3, 4] rfl ?_
    exact h
  · have hb := Classical.not_not.mp hb
    have b4 := hb
    replace h := h.2 hb
    refine s_iconst (q := 83) 53 rfl ?_
    refine s_istore (q := 85) (lv' := [(6, (0, 0)), (0, (2, x0)), (1, (0, x1)), (2, (0, x2)), (3, (0, x3)), (4, (0, x4)), (5, (0, x5))]) 54 rfl rfl ?_
    refine PW.pick [1, 2, 3, 4, 6, 0] rfl ?_
    exact h
theorem vX12_goBehind_85 {l : Launch} {G : pG} {bg : Nat × Nat} {n : Nat} {K : Int → Nat × Nat} {F E : Int → Int → Int} {Q : Option pV → pM → Prop} (x0 x1 x2 x3 x5 x6 : Int) (h : ((3 ≤ x6 → (K x0).1 = 12 ∧ (-2147483648 ≤ x1 + 1 ∧ x1 + 1 < 2147483648) ∧ (-2147483648 ≤ 3 * (x1 + 1) ∧ 3 * (x1 + 1) < 2147483648) ∧ (-2147483648 ≤ (3 * (x1 + 1)) + x3 ∧ (3 * (x1 + 1)) + x3 < 2147483648) ∧ (-2147483648 ≤ x5 + 2 ∧ x5 + 2 < 2147483648) ∧ (K (F x0 3)).1 = 20 ∧ ((0 : Int) ≤ x5 + 2 ∧ x5 + 2 < ((K (F x0 3)).2 : Int)) ∧ (0 : Int) ≤ F x0 41 ∧ (K (F x0 41)).1 = 20 ∧ ((0 : Int) ≤ (3 * (x1 + 1)) + x3 ∧ (3 * (x1 + 1)) + x3 < ((K (F x0 41)).2 : Int)) ∧ (∀ E1, E1 = pUp E (F x0 41) ((3 * (x1 + 1)) + x3) (E (F x0 3) (x5 + 2)) → (K (F x0 42)).1 = 20 ∧ ((0 : Int) ≤ x1 ∧ x1 < ((K (F x0 42)).2 : Int)) ∧ (0 : Int) ≤ F x0 42 ∧ ((0 : Int) ≤ x1 + 1 ∧ x1 + 1 < ((K (F x0 42)).2 : Int)) ∧ (∀ E2, E2 = pUp E1 (F x0 42) (x1 + 1) (bOr (E1 (F x0 42) x1) (bShl 1 x2)) → (K (F x0 46)).1 = 20 ∧ ((0 : Int) ≤ x2 ∧ x2 < ((K (F x0 46)).2 : Int)) ∧ (0 : Int) ≤ F x0 46 ∧ (∀ E3, E3 = pUp E2 (F x0 46) x2 (w32 ((E2 (F x0 46) x2) - 1)) → Q (some (0, 1)) (n, K, F, E3))))) ∧ (¬ (3 ≤ x6) → (K x0).1 = 12 ∧ (-2147483648 ≤ x1 + 1 ∧ x1 + 1 < 2147483648) ∧ (-2147483648 ≤ 3 * (x1 + 1) ∧ 3 * (x1 + 1) < 2147483648) ∧ (-2147483648 ≤ (3 * (x1 + 1)) + x6 ∧ (3 * (x1 + 1)) + x6 < 2147483648) ∧ (-2147483648 ≤ 3 * x1 ∧ 3 * x1 < 2147483648) ∧ (-2147483648 ≤ (3 * x1) + x6 ∧ (3 * x1) + x6 < 2147483648) ∧ (K (F x0 41)).1 = 20 ∧ ((0 : Int) ≤ (3 * x1) + x6 ∧ (3 * x1) + x6 < ((K (F x0 41)).2 : Int)) ∧ (0 : Int) ≤ F x0 41 ∧ ((0 : Int) ≤ (3 * (x1 + 1)) + x6 ∧ (3 * (x1 + 1)) + x6 < ((K (F x0 41)).2 : Int)) ∧ (∀ E4, E4 = pUp E (F x0 41) ((3 * (x1 + 1)) + x6) (E (F x0 41) ((3 * x1) + x6)) → (-2147483648 ≤ x6 + 1 ∧ x6 + 1 < 2147483648) ∧ PW l G 3 mX12_goBehind bg 85 [(0, (2, x0)), (1, (0, x1)), (2, (0, x2)), (3, (0, x3)), (5, (0, x5)), (6, (0, x6 + 1))] [] (n, K, F, E4) Q)))) : PW l G 3 mX12_goBehind bg 85 [(0, (2, x0)), (1, (0, x1)), (2, (0, x2)), (3, (0, x3)), (5, (0, x5)), (6, (0, x6))] [] (n, K, F, E) Q := by
  refine s_iload (q := 87) 55 5 rfl rfl ?_
  refine s_iconst (q := 88) 56 rfl ?_
  refine s_icmp_ge (q := 91) (tgt := 121) 57 rfl rfl (fun hb => ?_) (fun hb => ?_)
  · skip
    have b1 := hb
    replace h := h.1 hb
    refine s_aload_n (q := 122) 78 0 rfl rfl ?_
    obtain ⟨c2, h⟩ := h
    refine n_getf (q := 125) (jj := 41) 79 12 41 rfl kX12_106 c2 ?_
    refine s_iconst (q := 126) 80 rfl ?_
    refine s_iload_n (q := 127) 81 1 rfl rfl ?_
    refine s_iconst (q := 128) 82 rfl ?_
    obtain ⟨c3, h⟩ := h
    refine n_iadd (q := 129) 83 rfl c3 ?_
    obtain ⟨c4, h⟩ := h
    refine n_imul (q := 130) 84 rfl c4 ?_
    refine s_iload_n (q := 131) 85 3 rfl rfl ?_
    obtain ⟨c5, h⟩ := h
    refine n_iadd (q := 132) 86 rfl c5 ?_
    refine s_aload_n (q := 133) 87 0 rfl rfl ?_
    refine n_getf (q := 136) (jj := 3) 88 12 3 rfl kX12_13 c2 ?_
    refine s_iload (q := 138) 89 4 rfl rfl ?_
    refine s_iconst (q := 139) 90 rfl ?_
    obtain ⟨c6, h⟩ := h
    refine n_iadd (q := 140) 91 rfl c6 ?_
    obtain ⟨c7, h⟩ := h
    obtain ⟨c8, h⟩ := h
    refine n_iald (q := 141) 92 rfl c7 c8 ?_
    obtain ⟨c9, h⟩ := h
    obtain ⟨c10, h⟩ := h
    obtain ⟨c11, h⟩ := h
    refine n_iast (q := 142) 93 rfl c9 c10 c11 ?_
    refine PW.nameE (fun E1 eE1 => ?_)
    replace h := h E1 eE1
    refine s_aload_n (q := 143) 94 0 rfl rfl ?_
    refine n_getf (q := 146) (jj := 42) 95 12 42 rfl kX12_109 c2 ?_
    refine s_iload_n (q := 147) 96 1 rfl rfl ?_
    refine s_iconst (q := 148) 97 rfl ?_
    refine n_iadd (q := 149) 98 rfl c3 ?_
    refine s_aload_n (q := 150) 99 0 rfl rfl ?_
    refine n_getf (q := 153) (jj := 42) 100 12 42 rfl kX12_109 c2 ?_
    refine s_iload_n (q := 154) 101 1 rfl rfl ?_
    obtain ⟨c12, h⟩ := h
    obtain ⟨c13, h⟩ := h
    refine n_iald (q := 155) 102 rfl c12 c13 ?_
    refine s_iconst (q := 156) 103 rfl ?_
    refine s_iload_n (q := 157) 104 2 rfl rfl ?_
    refine s_ishl (q := 158) 105 rfl ?_
    refine s_ior (q := 159) 106 rfl ?_
    obtain ⟨c14, h⟩ := h
    obtain ⟨c15, h⟩ := h
    refine n_iast (q := 160) 107 rfl c14 c12 c15 ?_
    refine PW.nameE (fun E2 eE2 => ?_)
    replace h := h E2 eE2
    refine s_aload_n (q := 161) 108 0 rfl rfl ?_
    refine n_getf (q := 164) (jj := 46) 109 12 46 rfl kX12_121 c2 ?_
    refine s_iload_n (q := 165) 110 2 rfl rfl ?_
    refine s_dup2 (q := 166) 111 rfl ?_
    obtain ⟨c16, h⟩ := h
    obtain ⟨c17, h⟩ := h
    refine n_iald (q := 167) 112 rfl c16 c17 ?_
    refine s_iconst (q := 168) 113 rfl ?_
    refine s_isub (q := 169) 114 rfl ?_
    obtain ⟨c18, h⟩ := h
    refine n_iast (q := 170) 115 rfl c18 c16 c17 ?_
    refine PW.nameE (fun E3 eE3 => ?_)
    replace h := h E3 eE3
    refine s_iconst (q := 171) 116 rfl ?_
    exact s_zret 117 rfl rfl (by decide) h
  · skip
    have b1 := hb
    replace h := h.2 hb
    refine s_aload_n (q := 92) 58 0 rfl rfl ?_
    obtain ⟨c19, h⟩ := h
    refine n_getf (q := 95) (jj := 41) 59 12 41 rfl kX12_106 c19 ?_
    refine s_iconst (q := 96) 60 rfl ?_
    refine s_iload_n (q := 97) 61 1 rfl rfl ?_
    refine s_iconst (q := 98) 62 rfl ?_
    obtain ⟨c20, h⟩ := h
    refine n_iadd (q := 99) 63 rfl c20 ?_
    obtain ⟨c21, h⟩ := h
    refine n_imul (q := 100) 64 rfl c21 ?_
    refine s_iload (q := 102) 65 5 rfl rfl ?_
    obtain ⟨c22, h⟩ := h
    refine n_iadd (q := 103) 66 rfl c22 ?_
    refine s_aload_n (q := 104) 67 0 rfl rfl ?_
    refine n_getf (q := 107) (jj := 41) 68 12 41 rfl kX12_106 c19 ?_
    refine s_iconst (q := 108) 69 rfl ?_
    refine s_iload_n (q := 109) 70 1 rfl rfl ?_
    obtain ⟨c23, h⟩ := h
    refine n_imul (q := 110) 71 rfl c23 ?_
    refine s_iload (q := 112) 72 5 rfl rfl ?_
    obtain ⟨c24, h⟩ := h
    refine n_iadd (q := 113) 73 rfl c24 ?_
    obtain ⟨c25, h⟩ := h
    obtain ⟨c26, h⟩ := h
    refine n_iald (q := 114) 74 rfl c25 c26 ?_
    obtain ⟨c27, h⟩ := h
    obtain ⟨c28, h⟩ := h
    refine n_iast (q := 115) 75 rfl c27 c25 c28 ?_
    refine PW.nameE (fun E4 eE4 => ?_)
    replace h := h E4 eE4
    obtain ⟨c29, h⟩ := h
    refine n_iinc (q := 118) (lv' := [(6, (0, x6 + 1)), (0, (2, x0)), (1, (0, x1)), (2, (0, x2)), (3, (0, x3)), (5, (0, x5))]) 76 5 rfl rfl c29 rfl ?_
    refine s_goto (tgt := 85) 77 rfl rfl ?_
    refine PW.pick [1, 2, 3, 4, 5, 0] rfl ?_
    exact h
theorem vX12_shutIt_0 {l : Launch} {G : pG} {bg : Nat × Nat} {n : Nat} {K : Int → Nat × Nat} {F E : Int → Int → Int} {Q : Option pV → pM → Prop} (x0 x1 : Int) (h : (K x0).1 = 12 ∧ ((99 ≤ F x0 52 → (-2147483648 ≤ (F x0 52) + 1 ∧ (F x0 52) + 1 < 2147483648) ∧ (∀ F1, F1 = pUp F x0 52 ((F x0 52) + 1) → Q none (n, K, F1, E))) ∧ (¬ (99 ≤ F x0 52) → (K (F x0 44)).1 = 20 ∧ ((0 : Int) ≤ x1 ∧ x1 < ((K (F x0 44)).2 : Int)) ∧ (0 : Int) ≤ F x0 55 ∧ (K (F x0 55)).1 = 20 ∧ ((0 : Int) ≤ F x0 52 ∧ F x0 52 < ((K (F x0 55)).2 : Int)) ∧ (∀ E2, E2 = pUp E (F x0 55) (F x0 52) (E (F x0 44) x1) → (-2147483648 ≤ (F x0 52) + 1 ∧ (F x0 52) + 1 < 2147483648) ∧ (∀ F3, F3 = pUp F x0 52 ((F x0 52) + 1) → Q none (n, K, F3, E2)))))) : PW l G 0 mX12_shutIt bg 0 [(0, (2, x0)), (1, (0, x1))] [] (n, K, F, E) Q := by
  refine s_aload_n (q := 1) 0 0 rfl rfl ?_
  obtain ⟨c1, h⟩ := h
  refine n_getf (q := 4) (jj := 52) 1 12 52 rfl kX12_504 c1 ?_
  refine s_bipush (q := 6) 2 rfl ?_
  refine s_icmp_ge (q := 9) (tgt := 24) 3 rfl rfl (fun hb => ?_) (fun hb => ?_)
  · skip
    have b2 := hb
    replace h := h.1 hb
    refine s_aload_n (q := 25) 13 0 rfl rfl ?_
    refine s_dup (q := 26) 14 rfl ?_
    refine n_getf (q := 29) (jj := 52) 15 12 52 rfl kX12_504 c1 ?_
    refine s_iconst (q := 30) 16 rfl ?_
    obtain ⟨c3, h⟩ := h
    refine n_iadd (q := 31) 17 rfl c3 ?_
    refine n_putf (q := 34) (jj := 52) 18 12 52 rfl kX12_504 c1 (Or.inl rfl) ?_
    refine PW.nameF (fun F1 eF1 => ?_)
    replace h := h F1 eF1
    exact s_vret 19 rfl rfl h
  · skip
    have b2 := hb
    replace h := h.2 hb
    refine s_aload_n (q := 10) 4 0 rfl rfl ?_
    refine n_getf (q := 13) (jj := 55) 5 12 55 rfl kX12_130 c1 ?_
    refine s_aload_n (q := 14) 6 0 rfl rfl ?_
    refine n_getf (q := 17) (jj := 52) 7 12 52 rfl kX12_504 c1 ?_
    refine s_aload_n (q := 18) 8 0 rfl rfl ?_
    refine n_getf (q := 21) (jj := 44) 9 12 44 rfl kX12_115 c1 ?_
    refine s_iload_n (q := 22) 10 1 rfl rfl ?_
    obtain ⟨c4, h⟩ := h
    obtain ⟨c5, h⟩ := h
    refine n_iald (q := 23) 11 rfl c4 c5 ?_
    obtain ⟨c6, h⟩ := h
    obtain ⟨c7, h⟩ := h
    obtain ⟨c8, h⟩ := h
    refine n_iast (q := 24) 12 rfl c6 c7 c8 ?_
    refine PW.nameE (fun E2 eE2 => ?_)
    replace h := h E2 eE2
    refine s_aload_n (q := 25) 13 0 rfl rfl ?_
    refine s_dup (q := 26) 14 rfl ?_
    refine n_getf (q := 29) (jj := 52) 15 12 52 rfl kX12_504 c1 ?_
    refine s_iconst (q := 30) 16 rfl ?_
    obtain ⟨c9, h⟩ := h
    refine n_iadd (q := 31) 17 rfl c9 ?_
    refine n_putf (q := 34) (jj := 52) 18 12 52 rfl kX12_504 c1 (Or.inl rfl) ?_
    refine PW.nameF (fun F3 eF3 => ?_)
    replace h := h F3 eF3
    exact s_vret 19 rfl rfl h
theorem vX12_comes_0 {l : Launch} {G : pG} {bg : Nat × Nat} {n : Nat} {K : Int → Nat × Nat} {F E : Int → Int → Int} {Q : Option pV → pM → Prop} (x0 x1 x2 x3 x4 : Int) (h : (K x0).1 = 12 ∧ (∀ F1, F1 = pUp F x0 47 x1 → (0 : Int) ≤ F x0 48 ∧ (K (F x0 48)).1 = 20 ∧ ((0 : Int) ≤ 0 ∧ 0 < ((K (F x0 48)).2 : Int)) ∧ (∀ E2, E2 = pUp E (F x0 48) 0 x2 → ((0 : Int) ≤ 1 ∧ 1 < ((K (F x0 48)).2 : Int)) ∧ (∀ E3, E3 = pUp E2 (F x0 48) 1 x3 → (K (F x0 3)).1 = 20 ∧ ((0 : Int) ≤ 7 ∧ 7 < ((K (F x0 3)).2 : Int)) ∧ (-2147483648 ≤ (E3 (F x0 3) 7) + 1 ∧ (E3 (F x0 3) 7) + 1 < 2147483648) ∧ (∀ F4, F4 = pUp F1 x0 49 ((E3 (F x0 3) 7) + 1) → (∀ F5, F5 = pUp F4 x0 50 0 → (∀ F6, F6 = pUp F5 x0 51 0 → (∀ F7, F7 = pUp F6 x0 52 0 → (∀ F8, F8 = pUp F7 x0 53 0 → PW l G 6 mX12_comes bg 55 [(0, (2, x0)), (1, (0, x1)), (4, (0, x4)), (5, (0, 0))] [] (n, K, F8, E3) Q))))))))) : PW l G 6 mX12_comes bg 0 [(0, (2, x0)), (1, (0, x1)), (2, (0, x2)), (3, (0, x3)), (4, (0, x4))] [] (n, K, F, E) Q := by
  refine s_aload_n (q := 1) 0 0 rfl rfl ?_
  refine s_iload_n (q := 2) 1 1 rfl rfl ?_
  obtain ⟨c1, h⟩ := h
  refine n_putf (q := 5) (jj := 47) 2 12 47 rfl kX12_439 c1 (Or.inl rfl) ?_
  refine PW.nameF (fun F1 eF1 => ?_)
  replace h := h F1 eF1
  refine s_aload_n (q := 6) 3 0 rfl rfl ?_
  refine n_getf (q := 9) (jj := 48) 4 12 48 rfl kX12_124 c1 ?_
  refine PW.top (b := F x0 48) (by exact (congrFun (congrFun eF1 _) _).trans (pUp_k (by decide))) ?_
  refine s_iconst (q := 10) 5 rfl ?_
  refine s_iload_n (q := 11) 6 2 rfl rfl ?_
  obtain ⟨c2, h⟩ := h
  obtain ⟨c3, h⟩ := h
  obtain ⟨c4, h⟩ := h
  refine n_iast (q := 12) 7 rfl c2 c3 c4 ?_
  refine PW.nameE (fun E2 eE2 => ?_)
  replace h := h E2 eE2
  refine s_aload_n (q := 13) 8 0 rfl rfl ?_
  refine n_getf (q := 16) (jj := 48) 9 12 48 rfl kX12_124 c1 ?_
  refine PW.top (b := F x0 48) (by exact (congrFun (congrFun eF1 _) _).trans (pUp_k (by decide))) ?_
  refine s_iconst (q := 17) 10 rfl ?_
  refine s_iload_n (q := 18) 11 3 rfl rfl ?_
  obtain ⟨c5, h⟩ := h
  refine n_iast (q := 19) 12 rfl c2 c3 c5 ?_
  refine PW.nameE (fun E3 eE3 => ?_)
  replace h := h E3 eE3
  refine s_aload_n (q := 20) 13 0 rfl rfl ?_
  refine s_aload_n (q := 21) 14 0 rfl rfl ?_
  refine n_getf (q := 24) (jj := 3) 15 12 3 rfl kX12_13 c1 ?_
  refine PW.top (b := F x0 3) (by exact (congrFun (congrFun eF1 _) _).trans (pUp_k (by decide))) ?_
  refine s_bipush (q := 26) 16 rfl ?_
  obtain ⟨c6, h⟩ := h
  obtain ⟨c7, h⟩ := h
  refine n_iald (q := 27) 17 rfl c6 c7 ?_
  refine s_iconst (q := 28) 18 rfl ?_
  obtain ⟨c8, h⟩ := h
  refine n_iadd (q := 29) 19 rfl c8 ?_
  refine n_putf (q := 32) (jj := 49) 20 12 49 rfl kX12_442 c1 (Or.inl rfl) ?_
  refine PW.nameF (fun F4 eF4 => ?_)
  replace h := h F4 eF4
  refine s_aload_n (q := 33) 21 0 rfl rfl ?_
  refine s_iconst (q := 34) 22 rfl ?_
  refine n_putf (q := 37) (jj := 50) 23 12 50 rfl kX12_485 c1 (Or.inl rfl) ?_
  refine PW.nameF (fun F5 eF5 => ?_)
  replace h := h F5 eF5
  refine s_aload_n (q := 38) 24 0 rfl rfl ?_
  refine s_iconst (q := 39) 25 rfl ?_
  refine n_putf (q := 42) (jj := 51) 26 12 51 rfl kX12_473 c1 (Or.inl rfl) ?_
  refine PW.nameF (fun F6 eF6 => ?_)
  replace h := h F6 eF6
  refine s_aload_n (q := 43) 27 0 rfl rfl ?_
  refine s_iconst (q := 44) 28 rfl ?_
  refine n_putf (q := 47) (jj := 52) 29 12 52 rfl kX12_504 c1 (Or.inl rfl) ?_
  refine PW.nameF (fun F7 eF7 => ?_)
  replace h := h F7 eF7
  refine s_aload_n (q := 48) 30 0 rfl rfl ?_
  refine s_iconst (q := 49) 31 rfl ?_
  refine n_putf (q := 52) (jj := 53) 32 12 53 rfl kX12_495 c1 (Or.inl rfl) ?_
  refine PW.nameF (fun F8 eF8 => ?_)
  replace h := h F8 eF8
  refine s_iconst (q := 53) 33 rfl ?_
  refine s_istore (q := 55) (lv' := [(5, (0, 0)), (0, (2, x0)), (1, (0, x1)), (2, (0, x2)), (3, (0, x3)), (4, (0, x4))]) 34 rfl rfl ?_
  refine PW.pick [1, 2, 5, 0] rfl ?_
  exact h
theorem vX12_comes_55 {l : Launch} {G : pG} {bg : Nat × Nat} {n : Nat} {K : Int → Nat × Nat} {F E : Int → Int → Int} {Q : Option pV → pM → Prop} (x0 x1 x4 x5 : Int) (h : (K x0).1 = 12 ∧ (K (F x0 3)).1 = 20 ∧ ((0 : Int) ≤ 6 ∧ 6 < ((K (F x0 3)).2 : Int)) ∧ ((E (F x0 3) 6 ≤ x5 → PW l G 6 mX12_comes bg 95 [(0, (2, x0)), (1, (0, x1)), (4, (0, x4)), (5, (0, 0))] [] (n, K, F, E) Q) ∧ (¬ (E (F x0 3) 6 ≤ x5) → (-2147483648 ≤ 6 * x5 ∧ 6 * x5 < 2147483648) ∧ (-2147483648 ≤ 18 + (6 * x5) ∧ 18 + (6 * x5) < 2147483648) ∧ (-2147483648 ≤ (18 + (6 * x5)) + 5 ∧ (18 + (6 * x5)) + 5 < 2147483648) ∧ ((0 : Int) ≤ (18 + (6 * x5)) + 5 ∧ (18 + (6 * x5)) + 5 < ((K (F x0 3)).2 : Int)) ∧ (0 : Int) ≤ F x0 46 ∧ (K (F x0 46)).1 = 20 ∧ ((0 : Int) ≤ x5 ∧ x5 < ((K (F x0 46)).2 : Int)) ∧ (∀ E1, E1 = pUp E (F x0 46) x5 (E (F x0 3) ((18 + (6 * x5)) + 5)) → (-2147483648 ≤ x5 + 1 ∧ x5 + 1 < 2147483648) ∧ PW l G 6 mX12_comes bg 55 [(0, (2, x0)), (1, (0, x1)), (4, (0, x4)), (5, (0, x5 + 1))] [] (n, K, F, E1) Q)))) : PW l G 6 mX12_comes bg 55 [(0, (2, x0)), (1, (0, x1)), (4, (0, x4)), (5, (0, x5))] [] (n, K, F, E) Q := by
  refine s_iload (q := 57) 35 3 rfl rfl ?_
  refine s_aload_n (q := 58) 36 0 rfl rfl ?_
  obtain ⟨c1, h⟩ := h
  refine n_getf (q := 61) (jj := 3) 37 12 3 rfl kX12_13 c1 ?_
  refine s_bipush (q := 63) 38 rfl ?_
  obtain ⟨c2, h⟩ := h
  obtain ⟨c3, h⟩ := h
  refine n_iald (q := 64) 39 rfl c2 c3 ?_
  refine s_icmp_ge (q := 67) (tgt := 92) 40 rfl rfl (fun hb => ?_) (fun hb => ?_)
  · skip
    have b4 := hb
    replace h := h.1 hb
    refine s_iconst (q := 93) 54 rfl ?_
    refine s_istore (q := 95) (lv' := [(5, (0, 0)), (0, (2, x0)), (1, (0, x1)), (4, (0, x4))]) 55 rfl rfl ?_
    refine PW.pick [1, 2, 3, 0] rfl ?_
    exact h
  · skip
    have b4 := hb
    replace h := h.2 hb
    refine s_aload_n (q := 68) 41 0 rfl rfl ?_
    refine n_getf (q := 71) (jj := 46) 42 12 46 rfl kX12_121 c1 ?_
    refine s_iload (q := 73) 43 3 rfl rfl ?_
    refine s_aload_n (q := 74) 44 0 rfl rfl ?_
    refine n_getf (q := 77) (jj := 3) 45 12 3 rfl kX12_13 c1 ?_
    refine s_iload (q := 79) 46 3 rfl rfl ?_
    refine n_callS (N := mX12_operatorAt) (as := [(0, x5)]) (st := [(2, F x0 3), (0, x5), (2, F x0 46)]) (q := 82) (d' := 0) 47 rfl uX12_operatorAt kX12_210 rfl ?_
    show PW l G 0 mX12_operatorAt (0, 0) 0 [(0, (0, x5))] [] (n, K, F, E) _
    refine s_bipush (q := 2) 0 rfl ?_
    refine s_bipush (q := 4) 1 rfl ?_
    refine s_iload_n (q := 5) 2 0 rfl rfl ?_
    obtain ⟨c5, h⟩ := h
    refine n_imul (q := 6) 3 rfl c5 ?_
    obtain ⟨c6, h⟩ := h
    refine n_iadd (q := 7) 4 rfl c6 ?_
    refine s_iret 5 rfl rfl ?_
    show PW l G 6 mX12_comes bg 82 [(0, (2, x0)), (1, (0, x1)), (4, (0, x4)), (5, (0, x5))] [(0, 18 + (6 * x5)), (2, F x0 3), (0, x5), (2, F x0 46)] (n, K, F, E) Q
    refine s_iconst (q := 83) 48 rfl ?_
    obtain ⟨c7, h⟩ := h
    refine n_iadd (q := 84) 49 rfl c7 ?_
    obtain ⟨c8, h⟩ := h
    refine n_iald (q := 85) 50 rfl c2 c8 ?_
    obtain ⟨c9, h⟩ := h
    obtain ⟨c10, h⟩ := h
    obtain ⟨c11, h⟩ := h
    refine n_iast (q := 86) 51 rfl c9 c10 c11 ?_
    refine PW.nameE (fun E1 eE1 => ?_)
    replace h := h E1 eE1
    obtain ⟨c12, h⟩ := h
    refine n_iinc (q := 89) (lv' := [(5, (0, x5 + 1)), (0, (2, x0)), (1, (0, x1)), (4, (0, x4))]) 52 3 rfl rfl c12 rfl ?_
    refine s_goto (tgt := 55) 53 rfl rfl ?_
    refine PW.pick [1, 2, 3, 0] rfl ?_
    exact h
theorem vX12_comes_95 {l : Launch} {G : pG} {bg : Nat × Nat} {n : Nat} {K : Int → Nat × Nat} {F E : Int → Int → Int} {Q : Option pV → pM → Prop} (x0 x1 x4 x5 : Int) (h : ((3 ≤ x5 → (K x0).1 = 12 ∧ (0 : Int) ≤ F x0 42 ∧ (K (F x0 42)).1 = 20 ∧ ((0 : Int) ≤ 0 ∧ 0 < ((K (F x0 42)).2 : Int)) ∧ (∀ E1, E1 = pUp E (F x0 42) 0 0 → PW l G 6 mX12_comes bg 138 [(0, (2, x0)), (4, (0, x4)), (5, (0, 0))] [] (n, K, F, E1) Q)) ∧ (¬ (3 ≤ x5) → (K x0).1 = 12 ∧ ((¬ x5 = x1 → (0 : Int) ≤ F x0 41 ∧ (K (F x0 41)).1 = 20 ∧ ((0 : Int) ≤ x5 ∧ x5 < ((K (F x0 41)).2 : Int)) ∧ (∀ E2, E2 = pUp E (F x0 41) x5 0 → (-2147483648 ≤ x5 + 1 ∧ x5 + 1 < 2147483648) ∧ PW l G 6 mX12_comes bg 95 [(0, (2, x0)), (1, (0, x1)), (4, (0, x4)), (5, (0, x5 + 1))] [] (n, K, F, E2) Q)) ∧ (x5 = x1 → (0 : Int) ≤ F x0 41 ∧ (K (F x0 41)).1 = 20 ∧ ((0 : Int) ≤ x5 ∧ x5 < ((K (F x0 41)).2 : Int)) ∧ (∀ E3, E3 = pUp E (F x0 41) x5 (F x0 49) → (-2147483648 ≤ x5 + 1 ∧ x5 + 1 < 2147483648) ∧ PW l G 6 mX12_comes bg 95 [(0, (2, x0)), (1, (0, x1)), (4, (0, x4)), (5, (0, x5 + 1))] [] (n, K, F, E3) Q)))))) : PW l G 6 mX12_comes bg 95 [(0, (2, x0)), (1, (0, x1)), (4, (0, x4)), (5, (0, x5))] [] (n, K, F, E) Q := by
  refine s_iload (q := 97) 56 3 rfl rfl ?_
  refine s_iconst (q := 98) 57 rfl ?_
  refine s_icmp_ge (q := 101) (tgt := 128) 58 rfl rfl (fun hb => ?_) (fun hb => ?_)
  · skip
    have b1 := hb
    replace h := h.1 hb
    refine s_aload_n (q := 129) 72 0 rfl rfl ?_
    obtain ⟨c2, h⟩ := h
    refine n_getf (q := 132) (jj := 42) 73 12 42 rfl kX12_109 c2 ?_
    refine s_iconst (q := 133) 74 rfl ?_
    refine s_iconst (q := 134) 75 rfl ?_
    obtain ⟨c3, h⟩ := h
    obtain ⟨c4, h⟩ := h
    obtain ⟨c5, h⟩ := h
    refine n_iast (q := 135) 76 rfl c3 c4 c5 ?_
    refine PW.nameE (fun E1 eE1 => ?_)
    replace h := h E1 eE1
    refine s_iconst (q := 136) 77 rfl ?_
    refine s_istore (q := 138) (lv' := [(5, (0, 0)), (0, (2, x0)), (1, (0, x1)), (4, (0, x4))]) 78 rfl rfl ?_
    refine PW.pick [1, 3, 0] rfl ?_
    exact h
  · skip
    have b1 := hb
    replace h := h.2 hb
    refine s_aload_n (q := 102) 59 0 rfl rfl ?_
    obtain ⟨c6, h⟩ := h
    refine n_getf (q := 105) (jj := 41) 60 12 41 rfl kX12_106 c6 ?_
    refine s_iload (q := 107) 61 3 rfl rfl ?_
    refine s_iload (q := 109) 62 3 rfl rfl ?_
    refine s_iload_n (q := 110) 63 1 rfl rfl ?_
    refine s_icmp_ne (q := 113) (tgt := 120) 64 rfl rfl (fun hb => ?_) (fun hb => ?_)
    · skip
      have b7 := hb
      replace h := h.1 hb
      refine s_iconst (q := 121) 68 rfl ?_
      obtain ⟨c8, h⟩ := h
      obtain ⟨c9, h⟩ := h
      obtain ⟨c10, h⟩ := h
      refine n_iast (q := 122) 69 rfl c8 c9 c10 ?_
      refine PW.nameE (fun E2 eE2 => ?_)
      replace h := h E2 eE2
      obtain ⟨c11, h⟩ := h
      refine n_iinc (q := 125) (lv' := [(5, (0, x5 + 1)), (0, (2, x0)), (1, (0, x1)), (4, (0, x4))]) 70 3 rfl rfl c11 rfl ?_
      refine s_goto (tgt := 95) 71 rfl rfl ?_
      refine PW.pick [1, 2, 3, 0] rfl ?_
      exact h
    · have hb := Classical.not_not.mp hb
      have b7 := hb
      replace h := h.2 hb
      refine s_aload_n (q := 114) 65 0 rfl rfl ?_
      refine n_getf (q := 117) (jj := 49) 66 12 49 rfl kX12_442 c6 ?_
      refine s_goto (tgt := 121) 67 rfl rfl ?_
      obtain ⟨c12, h⟩ := h
      obtain ⟨c13, h⟩ := h
      obtain ⟨c14, h⟩ := h
      refine n_iast (q := 122) 69 rfl c12 c13 c14 ?_
      refine PW.nameE (fun E3 eE3 => ?_)
      replace h := h E3 eE3
      obtain ⟨c15, h⟩ := h
      refine n_iinc (q := 125) (lv' := [(5, (0, x5 + 1)), (0, (2, x0)), (1, (0, x1)), (4, (0, x4))]) 70 3 rfl rfl c15 rfl ?_
      refine s_goto (tgt := 95) 71 rfl rfl ?_
      refine PW.pick [1, 2, 3, 0] rfl ?_
      exact h
theorem vX12_comes_138 {l : Launch} {G : pG} {bg : Nat × Nat} {n : Nat} {K : Int → Nat × Nat} {F E : Int → Int → Int} {Q : Option pV → pM → Prop} (x0 x4 x5 : Int) (h : ((x5 < 0 → Q (some (0, 1)) (n, K, F, E)) ∧ (¬ (x5 < 0) → (K x0).1 = 12 ∧ PC l G 5 mX12_advance (0, 0) [(2, x0), (0, x5), (0, x4)] (n, K, F, E) (fun r μ => PW l G 6 mX12_comes bg 151 [(0, (2, x0)), (4, (0, x4)), (5, (0, x5))] (r.toList ++ []) μ Q)))) : PW l G 6 mX12_comes bg 138 [(0, (2, x0)), (4, (0, x4)), (5, (0, x5))] [] (n, K, F, E) Q := by
  refine s_iload (q := 140) 79 2 rfl rfl ?_
  refine s_if_lt (q := 143) (tgt := 245) 80 rfl rfl (fun hb => ?_) (fun hb => ?_)
  · skip
    have b1 := hb
    replace h := h.1 hb
    refine s_iconst (q := 246) 131 rfl ?_
    exact s_zret 132 rfl rfl (by decide) h
  · skip
    have b1 := hb
    replace h := h.2 hb
    refine s_aload_n (q := 144) 81 0 rfl rfl ?_
    refine s_iload (q := 146) 82 2 rfl rfl ?_
    refine s_iload (q := 148) 83 1 rfl rfl ?_
    obtain ⟨c2, h⟩ := h
    refine PW.pick [0, 1, 2] rfl ?_
    exact n_callV (N := mX12_advance) (as := [(0, x5), (0, x4)]) (st := []) (q := 151) (d' := 5) 84 rfl uX12_advance kX12_507 rfl c2 h
theorem vX12_comes_151 {l : Launch} {G : pG} {bg : Nat × Nat} {n : Nat} {K : Int → Nat × Nat} {F E : Int → Int → Int} {Q : Option pV → pM → Prop} (x0 x4 x5 s0 : Int) (h : ((¬ s0 = 2 → ((¬ s0 = 1 → (-2147483648 ≤ x5 - 1 ∧ x5 - 1 < 2147483648) ∧ PW l G 6 mX12_comes bg 201 [(0, (2, x0)), (4, (0, x4)), (7, (0, x5 - 1))] [] (n, K, F, E) Q) ∧ (s0 = 1 → PW l G 6 mX12_comes bg 201 [(0, (2, x0)), (4, (0, x4)), (7, (0, x5))] [] (n, K, F, E) Q))) ∧ (s0 = 2 → (-2147483648 ≤ x5 - 1 ∧ x5 - 1 < 2147483648) ∧ PW l G 6 mX12_comes bg 165 [(0, (2, x0)), (7, (0, x5 - 1))] [] (n, K, F, E) Q))) : PW l G 6 mX12_comes bg 151 [(0, (2, x0)), (4, (0, x4)), (5, (0, x5))] [(0, s0)] (n, K, F, E) Q := by
  refine s_istore (q := 153) (lv' := [(6, (0, s0)), (0, (2, x0)), (4, (0, x4)), (5, (0, x5))]) 85 rfl rfl ?_
  refine s_iload (q := 155) 86 0 rfl rfl ?_
  refine s_iconst (q := 156) 87 rfl ?_
  refine s_icmp_ne (q := 159) (tgt := 184) 88 rfl rfl (fun hb => ?_) (fun hb => ?_)
  · skip
    have b1 := hb
    replace h := h.1 hb
    refine s_iload (q := 186) 102 0 rfl rfl ?_
    refine s_iconst (q := 187) 103 rfl ?_
    refine s_icmp_ne (q := 190) (tgt := 195) 104 rfl rfl (fun hb => ?_) (fun hb => ?_)
    · skip
      have b2 := hb
      replace h := h.1 hb
      refine s_iload (q := 197) 107 3 rfl rfl ?_
      refine s_iconst (q := 198) 108 rfl ?_
      obtain ⟨c3, h⟩ := h
      refine n_isub (q := 199) 109 rfl c3 ?_
      refine s_istore (q := 201) (lv' := [(7, (0, x5 - 1)), (6, (0, s0)), (0, (2, x0)), (4, (0, x4)), (5, (0, x5))]) 110 rfl rfl ?_
      refine PW.pick [2, 3, 0] rfl ?_
      exact h
    · have hb := Classical.not_not.mp hb
      have b2 := hb
      replace h := h.2 hb
      refine s_iload (q := 192) 105 3 rfl rfl ?_
      refine s_goto (tgt := 199) 106 rfl rfl ?_
      refine s_istore (q := 201) (lv' := [(7, (0, x5)), (6, (0, s0)), (0, (2, x0)), (4, (0, x4)), (5, (0, x5))]) 110 rfl rfl ?_
      refine PW.pick [2, 3, 0] rfl ?_
      exact h
  · have hb := Classical.not_not.mp hb
    have b1 := hb
    replace h := h.2 hb
    refine s_iload (q := 161) 89 3 rfl rfl ?_
    refine s_iconst (q := 162) 90 rfl ?_
    obtain ⟨c4, h⟩ := h
    refine n_isub (q := 163) 91 rfl c4 ?_
    refine s_istore (q := 165) (lv' := [(7, (0, x5 - 1)), (6, (0, s0)), (0, (2, x0)), (4, (0, x4)), (5, (0, x5))]) 92 rfl rfl ?_
    refine PW.pick [2, 0] rfl ?_
    exact h
theorem vX12_comes_165 {l : Launch} {G : pG} {bg : Nat × Nat} {n : Nat} {K : Int → Nat × Nat} {F E : Int → Int → Int} {Q : Option pV → pM → Prop} (x0 x7 : Int) (h : ((x7 < 0 → Q (some (0, 0)) (n, K, F, E)) ∧ (¬ (x7 < 0) → (K x0).1 = 12 ∧ PC l G 0 mX12_shutIt (0, 0) [(2, x0), (0, x7)] (n, K, F, E) (fun r μ => PW l G 6 mX12_comes bg 176 [(0, (2, x0)), (7, (0, x7))] (r.toList ++ []) μ Q)))) : PW l G 6 mX12_comes bg 165 [(0, (2, x0)), (7, (0, x7))] [] (n, K, F, E) Q := by
  refine s_iload (q := 167) 93 1 rfl rfl ?_
  refine s_if_lt (q := 170) (tgt := 182) 94 rfl rfl (fun hb => ?_) (fun hb => ?_)
  · skip
    have b1 := hb
    replace h := h.1 hb
    refine s_iconst (q := 183) 100 rfl ?_
    exact s_zret 101 rfl rfl (by decide) h
  · skip
    have b1 := hb
    replace h := h.2 hb
    refine s_aload_n (q := 171) 95 0 rfl rfl ?_
    refine s_iload (q := 173) 96 1 rfl rfl ?_
    obtain ⟨c2, h⟩ := h
    refine PW.pick [0, 1] rfl ?_
    exact n_callV (N := mX12_shutIt) (as := [(0, x7)]) (st := []) (q := 176) (d' := 0) 97 rfl uX12_shutIt kX12_510 rfl c2 h
theorem vX12_comes_201 {l : Launch} {G : pG} {bg : Nat × Nat} {n : Nat} {K : Int → Nat × Nat} {F E : Int → Int → Int} {Q : Option pV → pM → Prop} (x0 x4 x7 : Int) (h : ((x7 < 0 → ((0 ≤ x7 → (-2147483648 ≤ x7 + 1 ∧ x7 + 1 < 2147483648) ∧ PW l G 6 mX12_comes bg 138 [(0, (2, x0)), (4, (0, x4)), (5, (0, x7 + 1))] [] (n, K, F, E) Q) ∧ (¬ (0 ≤ x7) → PW l G 6 mX12_comes bg 138 [(0, (2, x0)), (4, (0, x4)), (5, (0, (-1)))] [] (n, K, F, E) Q))) ∧ (¬ (x7 < 0) → (K x0).1 = 12 ∧ PC l G 3 mX12_goBehind (0, 0) [(2, x0), (0, x7)] (n, K, F, E) (fun r μ => PW l G 6 mX12_comes bg 212 [(0, (2, x0)), (4, (0, x4)), (7, (0, x7))] (r.toList ++ []) μ Q)))) : PW l G 6 mX12_comes bg 201 [(0, (2, x0)), (4, (0, x4)), (7, (0, x7))] [] (n, K, F, E) Q := by
  refine s_iload (q := 203) 111 2 rfl rfl ?_
  refine s_if_lt (q := 206) (tgt := 227) 112 rfl rfl (fun hb => ?_) (fun hb => ?_)
  · skip
    have b1 := hb
    replace h := h.1 hb
    refine s_iload (q := 229) 122 2 rfl rfl ?_
    refine s_if_ge (q := 232) (tgt := 236) 123 rfl rfl (fun hb => ?_) (fun hb => ?_)
    · skip
      have b2 := hb
      replace h := h.1 hb
      refine s_iload (q := 238) 126 2 rfl rfl ?_
      refine s_iconst (q := 239) 127 rfl ?_
      obtain ⟨c3, h⟩ := h
      refine n_iadd (q := 240) 128 rfl c3 ?_
      refine s_istore (q := 242) (lv' := [(5, (0, x7 + 1)), (0, (2, x0)), (4, (0, x4)), (7, (0, x7))]) 129 rfl rfl ?_
      refine s_goto (tgt := 138) 130 rfl rfl ?_
      refine PW.pick [1, 2, 0] rfl ?_
      exact h
    · skip
      have b2 := hb
      replace h := h.2 hb
      refine s_iconst (q := 233) 124 rfl ?_
      refine s_goto (tgt := 240) 125 rfl rfl ?_
      refine s_istore (q := 242) (lv' := [(5, (0, (-1))), (0, (2, x0)), (4, (0, x4)), (7, (0, x7))]) 129 rfl rfl ?_
      refine s_goto (tgt := 138) 130 rfl rfl ?_
      refine PW.pick [1, 2, 0] rfl ?_
      exact h
  · skip
    have b1 := hb
    replace h := h.2 hb
    refine s_aload_n (q := 207) 113 0 rfl rfl ?_
    refine s_iload (q := 209) 114 2 rfl rfl ?_
    obtain ⟨c4, h⟩ := h
    refine PW.pick [0, 1, 2] rfl ?_
    exact n_callV (N := mX12_goBehind) (as := [(0, x7)]) (st := []) (q := 212) (d' := 3) 115 rfl uX12_goBehind kX12_513 rfl c4 h
theorem vX12_comes_176 {l : Launch} {G : pG} {bg : Nat × Nat} {n : Nat} {K : Int → Nat × Nat} {F E : Int → Int → Int} {Q : Option pV → pM → Prop} (x0 x7 : Int) (h : (-2147483648 ≤ x7 + (-1) ∧ x7 + (-1) < 2147483648) ∧ PW l G 6 mX12_comes bg 165 [(0, (2, x0)), (7, (0, x7 + (-1)))] [] (n, K, F, E) Q) : PW l G 6 mX12_comes bg 176 [(0, (2, x0)), (7, (0, x7))] [] (n, K, F, E) Q := by
  obtain ⟨c1, h⟩ := h
  refine n_iinc (q := 179) (lv' := [(7, (0, x7 + (-1))), (0, (2, x0))]) 98 1 rfl rfl c1 rfl ?_
  refine s_goto (tgt := 165) 99 rfl rfl ?_
  refine PW.pick [1, 0] rfl ?_
  exact h
theorem vX12_comes_212 {l : Launch} {G : pG} {bg : Nat × Nat} {n : Nat} {K : Int → Nat × Nat} {F E : Int → Int → Int} {Q : Option pV → pM → Prop} (x0 x4 x7 s0 : Int) (h : ((¬ s0 = 0 → ((0 ≤ x7 → (-2147483648 ≤ x7 + 1 ∧ x7 + 1 < 2147483648) ∧ PW l G 6 mX12_comes bg 138 [(0, (2, x0)), (4, (0, x4)), (5, (0, x7 + 1))] [] (n, K, F, E) Q) ∧ (¬ (0 ≤ x7) → PW l G 6 mX12_comes bg 138 [(0, (2, x0)), (4, (0, x4)), (5, (0, (-1)))] [] (n, K, F, E) Q))) ∧ (s0 = 0 → (K x0).1 = 12 ∧ PC l G 0 mX12_shutIt (0, 0) [(2, x0), (0, x7)] (n, K, F, E) (fun r μ => PW l G 6 mX12_comes bg 221 [(0, (2, x0)), (4, (0, x4)), (7, (0, x7))] (r.toList ++ []) μ Q)))) : PW l G 6 mX12_comes bg 212 [(0, (2, x0)), (4, (0, x4)), (7, (0, x7))] [(0, s0)] (n, K, F, E) Q := by
  refine s_if_ne (q := 215) (tgt := 227) 116 rfl rfl (fun hb => ?_) (fun hb => ?_)
  · skip
    have b1 := hb
    replace h := h.1 hb
    refine s_iload (q := 229) 122 2 rfl rfl ?_
    refine s_if_ge (q := 232) (tgt := 236) 123 rfl rfl (fun hb => ?_) (fun hb => ?_)
    · skip
      have b2 := hb
      replace h := h.1 hb
      refine s_iload (q := 238) 126 2 rfl rfl ?_
      refine s_iconst (q := 239) 127 rfl ?_
      obtain ⟨c3, h⟩ := h
      refine n_iadd (q := 240) 128 rfl c3 ?_
      refine s_istore (q := 242) (lv' := [(5, (0, x7 + 1)), (0, (2, x0)), (4, (0, x4)), (7, (0, x7))]) 129 rfl rfl ?_
      refine s_goto (tgt := 138) 130 rfl rfl ?_
      refine PW.pick [1, 2, 0] rfl ?_
      exact h
    · skip
      have b2 := hb
      replace h := h.2 hb
      refine s_iconst (q := 233) 124 rfl ?_
      refine s_goto (tgt := 240) 125 rfl rfl ?_
      refine s_istore (q := 242) (lv' := [(5, (0, (-1))), (0, (2, x0)), (4, (0, x4)), (7, (0, x7))]) 129 rfl rfl ?_
      refine s_goto (tgt := 138) 130 rfl rfl ?_
      refine PW.pick [1, 2, 0] rfl ?_
      exact h
  · have hb := Classical.not_not.mp hb
    have b1 := hb
    replace h := h.2 hb
    refine s_aload_n (q := 216) 117 0 rfl rfl ?_
    refine s_iload (q := 218) 118 2 rfl rfl ?_
    obtain ⟨c4, h⟩ := h
    refine PW.pick [0, 1, 2] rfl ?_
    exact n_callV (N := mX12_shutIt) (as := [(0, x7)]) (st := []) (q := 221) (d' := 0) 119 rfl uX12_shutIt kX12_510 rfl c4 h
theorem vX12_comes_221 {l : Launch} {G : pG} {bg : Nat × Nat} {n : Nat} {K : Int → Nat × Nat} {F E : Int → Int → Int} {Q : Option pV → pM → Prop} (x0 x4 x7 : Int) (h : (-2147483648 ≤ x7 + (-1) ∧ x7 + (-1) < 2147483648) ∧ PW l G 6 mX12_comes bg 201 [(0, (2, x0)), (4, (0, x4)), (7, (0, x7 + (-1)))] [] (n, K, F, E) Q) : PW l G 6 mX12_comes bg 221 [(0, (2, x0)), (4, (0, x4)), (7, (0, x7))] [] (n, K, F, E) Q := by
  obtain ⟨c1, h⟩ := h
  refine n_iinc (q := 224) (lv' := [(7, (0, x7 + (-1))), (0, (2, x0)), (4, (0, x4))]) 120 2 rfl rfl c1 rfl ?_
  refine s_goto (tgt := 201) 121 rfl rfl ?_
  refine PW.pick [1, 2, 0] rfl ?_
  exact h
theorem vX12_dropEldest_0 {l : Launch} {G : pG} {bg : Nat × Nat} {n : Nat} {K : Int → Nat × Nat} {F E : Int → Int → Int} {Q : Option pV → pM → Prop} (x0 x1 x2 : Int) (h : (K x0).1 = 12 ∧ (-2147483648 ≤ 15 + x1 ∧ 15 + x1 < 2147483648) ∧ (K (F x0 3)).1 = 20 ∧ ((0 : Int) ≤ 15 + x1 ∧ 15 + x1 < ((K (F x0 3)).2 : Int)) ∧ (-2147483648 ≤ (E (F x0 3) (15 + x1)) - x2 ∧ (E (F x0 3) (15 + x1)) - x2 < 2147483648) ∧ (0 : Int) ≤ F x0 3 ∧ (∀ E1, E1 = pUp E (F x0 3) (15 + x1) ((E (F x0 3) (15 + x1)) - x2) → PW l G 1 mX12_dropEldest bg 15 [(0, (2, x0)), (1, (0, x1)), (2, (0, x2)), (3, (0, 0))] [] (n, K, F, E1) Q)) : PW l G 1 mX12_dropEldest bg 0 [(0, (2, x0)), (1, (0, x1)), (2, (0, x2))] [] (n, K, F, E) Q := by
  refine s_aload_n (q := 1) 0 0 rfl rfl ?_
  obtain ⟨c1, h⟩ := h
  refine n_getf (q := 4) (jj := 3) 1 12 3 rfl kX12_13 c1 ?_
  refine s_bipush (q := 6) 2 rfl ?_
  refine s_iload_n (q := 7) 3 1 rfl rfl ?_
  obtain ⟨c2, h⟩ := h
  refine n_iadd (q := 8) 4 rfl c2 ?_
  refine s_dup2 (q := 9) 5 rfl ?_
  obtain ⟨c3, h⟩ := h
  obtain ⟨c4, h⟩ := h
  refine n_iald (q := 10) 6 rfl c3 c4 ?_
  refine s_iload_n (q := 11) 7 2 rfl rfl ?_
  obtain ⟨c5, h⟩ := h
  refine n_isub (q := 12) 8 rfl c5 ?_
  obtain ⟨c6, h⟩ := h
  refine n_iast (q := 13) 9 rfl c6 c3 c4 ?_
  refine PW.nameE (fun E1 eE1 => ?_)
  replace h := h E1 eE1
  refine s_iconst (q := 14) 10 rfl ?_
  refine s_istore_n (q := 15) (lv' := [(3, (0, 0)), (0, (2, x0)), (1, (0, x1)), (2, (0, x2))]) 11 rfl rfl ?_
  refine PW.pick [1, 2, 3, 0] rfl ?_
  exact h
theorem vX12_dropEldest_15 {l : Launch} {G : pG} {bg : Nat × Nat} {n : Nat} {K : Int → Nat × Nat} {F E : Int → Int → Int} {Q : Option pV → pM → Prop} (x0 x1 x2 x3 : Int) (h : (K x0).1 = 12 ∧ (-2147483648 ≤ 15 + x1 ∧ 15 + x1 < 2147483648) ∧ (K (F x0 3)).1 = 20 ∧ ((0 : Int) ≤ 15 + x1 ∧ 15 + x1 < ((K (F x0 3)).2 : Int)) ∧ (-2147483648 ≤ 3 * (E (F x0 3) (15 + x1)) ∧ 3 * (E (F x0 3) (15 + x1)) < 2147483648) ∧ ((3 * (E (F x0 3) (15 + x1)) ≤ x3 → Q none (n, K, F, E)) ∧ (¬ (3 * (E (F x0 3) (15 + x1)) ≤ x3) → (-2147483648 ≤ 27 * x1 ∧ 27 * x1 < 2147483648) ∧ (-2147483648 ≤ 42 + (27 * x1) ∧ 42 + (27 * x1) < 2147483648) ∧ (-2147483648 ≤ (42 + (27 * x1)) + 0 ∧ (42 + (27 * x1)) + 0 < 2147483648) ∧ (-2147483648 ≤ ((42 + (27 * x1)) + 0) + x3 ∧ ((42 + (27 * x1)) + 0) + x3 < 2147483648) ∧ (-2147483648 ≤ 3 * x2 ∧ 3 * x2 < 2147483648) ∧ (-2147483648 ≤ (42 + (27 * x1)) + (3 * x2) ∧ (42 + (27 * x1)) + (3 * x2) < 2147483648) ∧ (-2147483648 ≤ ((42 + (27 * x1)) + (3 * x2)) + x3 ∧ ((42 + (27 * x1)) + (3 * x2)) + x3 < 2147483648) ∧ ((0 : Int) ≤ ((42 + (27 * x1)) + (3 * x2)) + x3 ∧ ((42 + (27 * x1)) + (3 * x2)) + x3 < ((K (F x0 3)).2 : Int)) ∧ (∀ a1, a1 = E (F x0 3) (((42 + (27 * x1)) + (3 * x2)) + x3) → (0 : Int) ≤ F x0 3 ∧ ((0 : Int) ≤ ((42 + (27 * x1)) + 0) + x3 ∧ ((42 + (27 * x1)) + 0) + x3 < ((K (F x0 3)).2 : Int)) ∧ (∀ E2, E2 = pUp E (F x0 3) (((42 + (27 * x1)) + 0) + x3) a1 → (-2147483648 ≤ x3 + 1 ∧ x3 + 1 < 2147483648) ∧ PW l G 1 mX12_dropEldest bg 15 [(0, (2, x0)), (1, (0, x1)), (2, (0, x2)), (3, (0, x3 + 1))] [] (n, K, F, E2) Q))))) : PW l G 1 mX12_dropEldest bg 15 [(0, (2, x0)), (1, (0, x1)), (2, (0, x2)), (3, (0, x3))] [] (n, K, F, E) Q := by
  refine s_iload_n (q := 16) 12 3 rfl rfl ?_
  refine s_iconst (q := 17) 13 rfl ?_
  refine s_aload_n (q := 18) 14 0 rfl rfl ?_
  obtain ⟨c1, h⟩ := h
  refine n_getf (q := 21) (jj := 3) 15 12 3 rfl kX12_13 c1 ?_
  refine s_bipush (q := 23) 16 rfl ?_
  refine s_iload_n (q := 24) 17 1 rfl rfl ?_
  obtain ⟨c2, h⟩ := h
  refine n_iadd (q := 25) 18 rfl c2 ?_
  obtain ⟨c3, h⟩ := h
  obtain ⟨c4, h⟩ := h
  refine n_iald (q := 26) 19 rfl c3 c4 ?_
  obtain ⟨c5, h⟩ := h
  refine n_imul (q := 27) 20 rfl c5 ?_
  refine s_icmp_ge (q := 30) (tgt := 60) 21 rfl rfl (fun hb => ?_) (fun hb => ?_)
  · skip
    have b6 := hb
    replace h := h.1 hb
    exact s_vret 40 rfl rfl h
  · skip
    have b6 := hb
    replace h := h.2 hb
    refine s_aload_n (q := 31) 22 0 rfl rfl ?_
    refine n_getf (q := 34) (jj := 3) 23 12 3 rfl kX12_13 c1 ?_
    refine s_iload_n (q := 35) 24 1 rfl rfl ?_
    refine s_iconst (q := 36) 25 rfl ?_
    refine n_callS (N := mX12_tupleAt) (as := [(0, x1), (0, 0)]) (st := [(2, F x0 3)]) (q := 39) (d' := 0) 26 rfl uX12_tupleAt kX12_225 rfl ?_
    show PW l G 0 mX12_tupleAt (0, 0) 0 [(0, (0, x1)), (1, (0, 0))] [] (n, K, F, E) _
    refine s_bipush (q := 2) 0 rfl ?_
    refine s_bipush (q := 4) 1 rfl ?_
    refine s_iload_n (q := 5) 2 0 rfl rfl ?_
    obtain ⟨c7, h⟩ := h
    refine n_imul (q := 6) 3 rfl c7 ?_
    obtain ⟨c8, h⟩ := h
    refine n_iadd (q := 7) 4 rfl c8 ?_
    refine s_iconst (q := 8) 5 rfl ?_
    refine s_iload_n (q := 9) 6 1 rfl rfl ?_
    refine n_imul (q := 10) 7 rfl (by decide) ?_
    refine PW.top (b := 0) (by decide) ?_
    obtain ⟨c9, h⟩ := h
    refine n_iadd (q := 11) 8 rfl c9 ?_
    refine s_iret 9 rfl rfl ?_
    show PW l G 1 mX12_dropEldest bg 39 [(0, (2, x0)), (1, (0, x1)), (2, (0, x2)), (3, (0, x3))] [(0, (42 + (27 * x1)) + 0), (2, F x0 3)] (n, K, F, E) Q
    refine s_iload_n (q := 40) 27 3 rfl rfl ?_
    obtain ⟨c10, h⟩ := h
    refine n_iadd (q := 41) 28 rfl c10 ?_
    refine s_aload_n (q := 42) 29 0 rfl rfl ?_
    refine n_getf (q := 45) (jj := 3) 30 12 3 rfl kX12_13 c1 ?_
    refine s_iload_n (q := 46) 31 1 rfl rfl ?_
    refine s_iload_n (q := 47) 32 2 rfl rfl ?_
    refine n_callS (N := mX12_tupleAt) (as := [(0, x1), (0, x2)]) (st := [(2, F x0 3), (0, ((42 + (27 * x1)) + 0) + x3), (2, F x0 3)]) (q := 50) (d' := 0) 33 rfl uX12_tupleAt kX12_225 rfl ?_
    show PW l G 0 mX12_tupleAt (0, 0) 0 [(0, (0, x1)), (1, (0, x2))] [] (n, K, F, E) _
    refine s_bipush (q := 2) 0 rfl ?_
    refine s_bipush (q := 4) 1 rfl ?_
    refine s_iload_n (q := 5) 2 0 rfl rfl ?_
    refine n_imul (q := 6) 3 rfl c7 ?_
    refine n_iadd (q := 7) 4 rfl c8 ?_
    refine s_iconst (q := 8) 5 rfl ?_
    refine s_iload_n (q := 9) 6 1 rfl rfl ?_
    obtain ⟨c11, h⟩ := h
    refine n_imul (q := 10) 7 rfl c11 ?_
    obtain ⟨c12, h⟩ := h
    refine n_iadd (q := 11) 8 rfl c12 ?_
    refine s_iret 9 rfl rfl ?_
    show PW l G 1 mX12_dropEldest bg 50 [(0, (2, x0)), (1, (0, x1)), (2, (0, x2)), (3, (0, x3))] [(0, (42 + (27 * x1)) + (3 * x2)), (2, F x0 3), (0, ((42 + (27 * x1)) + 0) + x3), (2, F x0 3)] (n, K, F, E) Q
    refine s_iload_n (q := 51) 34 3 rfl rfl ?_
    obtain ⟨c13, h⟩ := h
    refine n_iadd (q := 52) 35 rfl c13 ?_
    obtain ⟨c14, h⟩ := h
    refine n_iald (q := 53) 36 rfl c3 c14 ?_
    refine PW.name (fun a1 ea1 => ?_)
    replace h := h a1 ea1
    obtain ⟨c15, h⟩ := h
    obtain ⟨c16, h⟩ := h
    refine n_iast (q := 54) 37 rfl c15 c3 c16 ?_
    refine PW.nameE (fun E2 eE2 => ?_)
    replace h := h E2 eE2
    obtain ⟨c17, h⟩ := h
    refine n_iinc (q := 57) (lv' := [(3, (0, x3 + 1)), (0, (2, x0)), (1, (0, x1)), (2, (0, x2))]) 38 3 rfl rfl c17 rfl ?_
    refine s_goto (tgt := 15) 39 rfl rfl ?_
    refine PW.pick [1, 2, 3, 0] rfl ?_
    exact h
theorem vX12_comeNow_0 {l : Launch} {G : pG} {bg : Nat × Nat} {n : Nat} {K : Int → Nat × Nat} {F E : Int → Int → Int} {Q : Option pV → pM → Prop} (x0 x1 x2 x3 : Int) (h : (((0 ≤ x1 ∧ x1 < 3) ∧ (0 ≤ x2 ∧ x2 < 10) ∧ (0 ≤ x3 ∧ x3 < 10) → (K x0).1 = 12 ∧ (K (F x0 3)).1 = 20 ∧ ((0 : Int) ≤ 7 ∧ 7 < ((K (F x0 3)).2 : Int)) ∧ ((E (F x0 3) 7 = 999 → Q (some (0, (-3))) (n, K, F, E)) ∧ (¬ (E (F x0 3) 7 = 999) → PC l G 5 mX12_isBarred (0, 0) [(2, x0), (0, x1), (0, x2), (0, x3)] (n, K, F, E) (fun r μ => PW l G 7 mX12_comeNow bg 31 [(0, (2, x0)), (1, (0, x1)), (2, (0, x2)), (3, (0, x3))] (r.toList ++ []) μ Q)))) ∧ (¬ ((0 ≤ x1 ∧ x1 < 3) ∧ (0 ≤ x2 ∧ x2 < 10) ∧ (0 ≤ x3 ∧ x3 < 10)) → Q (some (0, (-1))) (n, K, F, E)))) : PW l G 7 mX12_comeNow bg 0 [(0, (2, x0)), (1, (0, x1)), (2, (0, x2)), (3, (0, x3))] [] (n, K, F, E) Q := by
  refine s_iload_n (q := 1) 0 1 rfl rfl ?_
  refine s_iload_n (q := 2) 1 2 rfl rfl ?_
  refine s_iload_n (q := 3) 2 3 rfl rfl ?_
  refine n_callS (N := mX12_isTuple) (as := [(0, x1), (0, x2), (0, x3)]) (st := []) (q := 6) (d' := 2) 3 rfl uX12_isTuple kX12_516 rfl (pX12_isTuple ?_)
  show PW l G 7 mX12_comeNow bg 6 [(0, (2, x0)), (1, (0, x1)), (2, (0, x2)), (3, (0, x3))] [(0, bI ((0 ≤ x1 ∧ x1 < 3) ∧ (0 ≤ x2 ∧ x2 < 10) ∧ (0 ≤ x3 ∧ x3 < 10)))] (n, K, F, E) Q
  refine s_if_ne (q := 9) (tgt := 11) 4 rfl rfl (fun hb => ?_) (fun hb => ?_)
  · have hb := bI_t hb
    have b1 := hb
    replace h := h.1 hb
    refine s_aload_n (q := 12) 7 0 rfl rfl ?_
    obtain ⟨c2, h⟩ := h
    refine n_getf (q := 15) (jj := 3) 8 12 3 rfl kX12_13 c2 ?_
    refine s_bipush (q := 17) 9 rfl ?_
    obtain ⟨c3, h⟩ := h
    obtain ⟨c4, h⟩ := h
    refine n_iald (q := 18) 10 rfl c3 c4 ?_
    refine s_sipush (q := 21) 11 rfl ?_
    refine s_icmp_eq (q := 24) (tgt := 34) 12 rfl rfl (fun hb => ?_) (fun hb => ?_)
    · skip
      have b5 := hb
      replace h := h.1 hb
      refine s_bipush (q := 36) 19 rfl ?_
      exact s_iret 20 rfl rfl h
    · skip
      have b5 := hb
      replace h := h.2 hb
      refine s_aload_n (q := 25) 13 0 rfl rfl ?_
      refine s_iload_n (q := 26) 14 1 rfl rfl ?_
      refine s_iload_n (q := 27) 15 2 rfl rfl ?_
      refine s_iload_n (q := 28) 16 3 rfl rfl ?_
      refine PW.pick [0, 1, 2, 3] rfl ?_
      exact n_callV (N := mX12_isBarred) (as := [(0, x1), (0, x2), (0, x3)]) (st := []) (q := 31) (d' := 5) 17 rfl uX12_isBarred kX12_520 rfl c2 h
  · have hb := bI_f2 hb
    have b1 := hb
    replace h := h.2 hb
    refine s_iconst (q := 10) 5 rfl ?_
    exact s_iret 6 rfl rfl h
theorem vX12_comeNow_31 {l : Launch} {G : pG} {bg : Nat × Nat} {n : Nat} {K : Int → Nat × Nat} {F E : Int → Int → Int} {Q : Option pV → pM → Prop} (x0 x1 x2 x3 s0 : Int) (h : ((s0 = 0 → (K x0).1 = 12 ∧ (∀ F1, F1 = pUp F x0 56 0 → (K (F x0 3)).1 = 20 ∧ ((0 : Int) ≤ 3 ∧ 3 < ((K (F x0 3)).2 : Int)) ∧ PC l G 6 mX12_comes (0, 0) [(2, x0), (0, x1), (0, x2), (0, x3), (0, E (F x0 3) 3)] (n, K, F1, E) (fun r μ => PW l G 7 mX12_comeNow bg 55 [(0, (2, x0)), (1, (0, x1)), (2, (0, x2)), (3, (0, x3))] (r.toList ++ []) μ Q))) ∧ (¬ (s0 = 0) → Q (some (0, (-3))) (n, K, F, E)))) : PW l G 7 mX12_comeNow bg 31 [(0, (2, x0)), (1, (0, x1)), (2, (0, x2)), (3, (0, x3))] [(0, s0)] (n, K, F, E) Q := by
  refine s_if_eq (q := 34) (tgt := 37) 18 rfl rfl (fun hb => ?_) (fun hb => ?_)
  · skip
    have b1 := hb
    replace h := h.1 hb
    refine s_aload_n (q := 38) 21 0 rfl rfl ?_
    refine s_iconst (q := 39) 22 rfl ?_
    obtain ⟨c2, h⟩ := h
    refine n_putf (q := 42) (jj := 56) 23 12 56 rfl kX12_452 c2 (Or.inr (Or.inr (Or.inl ⟨rfl, (by decide)⟩))) ?_
    refine PW.nameF (fun F1 eF1 => ?_)
    replace h := h F1 eF1
    refine s_aload_n (q := 43) 24 0 rfl rfl ?_
    refine s_iload_n (q := 44) 25 1 rfl rfl ?_
    refine s_iload_n (q := 45) 26 2 rfl rfl ?_
    refine s_iload_n (q := 46) 27 3 rfl rfl ?_
    refine s_aload_n (q := 47) 28 0 rfl rfl ?_
    refine n_getf (q := 50) (jj := 3) 29 12 3 rfl kX12_13 c2 ?_
    refine PW.top (b := F x0 3) (by exact (congrFun (congrFun eF1 _) _).trans (pUp_k (by decide))) ?_
    refine s_iconst (q := 51) 30 rfl ?_
    obtain ⟨c3, h⟩ := h
    obtain ⟨c4, h⟩ := h
    refine n_iald (q := 52) 31 rfl c3 c4 ?_
    refine PW.pick [0, 1, 2, 3] rfl ?_
    exact n_callV (N := mX12_comes) (as := [(0, x1), (0, x2), (0, x3), (0, E (F x0 3) 3)]) (st := []) (q := 55) (d' := 6) 32 rfl uX12_comes kX12_523 rfl c2 h
  · skip
    have b1 := hb
    replace h := h.2 hb
    refine s_bipush (q := 36) 19 rfl ?_
    exact s_iret 20 rfl rfl h
theorem vX12_comeNow_55 {l : Launch} {G : pG} {bg : Nat × Nat} {n : Nat} {K : Int → Nat × Nat} {F E : Int → Int → Int} {Q : Option pV → pM → Prop} (x0 x1 x2 x3 s0 : Int) (h : ((¬ s0 = 0 → (K x0).1 = 12 ∧ PC l G 1 mX12_remember (0, 0) [(2, x0), (0, 0)] (n, K, F, E) (fun r μ => PW l G 7 mX12_comeNow bg 66 [(0, (2, x0)), (1, (0, x1)), (2, (0, x2)), (3, (0, x3))] (r.toList ++ []) μ Q)) ∧ (s0 = 0 → Q (some (0, (-5))) (n, K, F, E)))) : PW l G 7 mX12_comeNow bg 55 [(0, (2, x0)), (1, (0, x1)), (2, (0, x2)), (3, (0, x3))] [(0, s0)] (n, K, F, E) Q := by
  refine s_if_ne (q := 58) (tgt := 61) 33 rfl rfl (fun hb => ?_) (fun hb => ?_)
  · skip
    have b1 := hb
    replace h := h.1 hb
    refine s_aload_n (q := 62) 36 0 rfl rfl ?_
    refine s_iconst (q := 63) 37 rfl ?_
    obtain ⟨c2, h⟩ := h
    refine PW.pick [0, 1, 2, 3] rfl ?_
    exact n_callV (N := mX12_remember) (as := [(0, 0)]) (st := []) (q := 66) (d' := 1) 38 rfl uX12_remember kX12_207 rfl c2 h
  · have hb := Classical.not_not.mp hb
    have b1 := hb
    replace h := h.2 hb
    refine s_bipush (q := 60) 34 rfl ?_
    exact s_iret 35 rfl rfl h
theorem vX12_comeNow_66 {l : Launch} {G : pG} {bg : Nat × Nat} {n : Nat} {K : Int → Nat × Nat} {F E : Int → Int → Int} {Q : Option pV → pM → Prop} (x0 x1 x2 x3 : Int) (h : PW l G 7 mX12_comeNow bg 69 [(0, (2, x0)), (1, (0, x1)), (2, (0, x2)), (3, (0, x3)), (4, (0, 0))] [] (n, K, F, E) Q) : PW l G 7 mX12_comeNow bg 66 [(0, (2, x0)), (1, (0, x1)), (2, (0, x2)), (3, (0, x3))] [] (n, K, F, E) Q := by
  refine s_iconst (q := 67) 39 rfl ?_
  refine s_istore (q := 69) (lv' := [(4, (0, 0)), (0, (2, x0)), (1, (0, x1)), (2, (0, x2)), (3, (0, x3))]) 40 rfl rfl ?_
  refine PW.pick [1, 2, 3, 4, 0] rfl ?_
  exact h
theorem vX12_comeNow_69 {l : Launch} {G : pG} {bg : Nat × Nat} {n : Nat} {K : Int → Nat × Nat} {F E : Int → Int → Int} {Q : Option pV → pM → Prop} (x0 x1 x2 x3 x4 : Int) (h : (K x0).1 = 12 ∧ (K (F x0 3)).1 = 20 ∧ ((0 : Int) ≤ 6 ∧ 6 < ((K (F x0 3)).2 : Int)) ∧ ((E (F x0 3) 6 ≤ x4 → ((0 : Int) ≤ 7 ∧ 7 < ((K (F x0 3)).2 : Int)) ∧ (-2147483648 ≤ (E (F x0 3) 7) + 1 ∧ (E (F x0 3) 7) + 1 < 2147483648) ∧ (0 : Int) ≤ F x0 3 ∧ (∀ E1, E1 = pUp E (F x0 3) 7 ((E (F x0 3) 7) + 1) → ((0 : Int) ≤ 8 ∧ 8 < ((K (F x0 3)).2 : Int)) ∧ (∀ E2, E2 = pUp E1 (F x0 3) 8 (w32 ((E (F x0 3) 8) + (F x0 51))) → (-2147483648 ≤ 15 + x1 ∧ 15 + x1 < 2147483648) ∧ ((0 : Int) ≤ 15 + x1 ∧ 15 + x1 < ((K (F x0 3)).2 : Int)) ∧ (-2147483648 ≤ 9 + x1 ∧ 9 + x1 < 2147483648) ∧ ((0 : Int) ≤ 9 + x1 ∧ 9 + x1 < ((K (F x0 3)).2 : Int)) ∧ ((¬ (E2 (F x0 3) (15 + x1)) = E2 (F x0 3) (9 + x1) → (-2147483648 ≤ 27 * x1 ∧ 27 * x1 < 2147483648) ∧ (-2147483648 ≤ 42 + (27 * x1) ∧ 42 + (27 * x1) < 2147483648) ∧ (-2147483648 ≤ 3 * (E2 (F x0 3) (15 + x1)) ∧ 3 * (E2 (F x0 3) (15 + x1)) < 2147483648) ∧ (-2147483648 ≤ (42 + (27 * x1)) + (3 * (E2 (F x0 3) (15 + x1))) ∧ (42 + (27 * x1)) + (3 * (E2 (F x0 3) (15 + x1))) < 2147483648) ∧ (∀ a3, a3 = (42 + (27 * x1)) + (3 * (E2 (F x0 3) (15 + x1))) → ((0 : Int) ≤ a3 ∧ a3 < ((K (F x0 3)).2 : Int)) ∧ (∀ E4, E4 = pUp E2 (F x0 3) a3 x2 → (-2147483648 ≤ a3 + 1 ∧ a3 + 1 < 2147483648) ∧ ((0 : Int) ≤ a3 + 1 ∧ a3 + 1 < ((K (F x0 3)).2 : Int)) ∧ (∀ E5, E5 = pUp E4 (F x0 3) (a3 + 1) x3 → (-2147483648 ≤ a3 + 2 ∧ a3 + 2 < 2147483648) ∧ ((0 : Int) ≤ a3 + 2 ∧ a3 + 2 < ((K (F x0 3)).2 : Int)) ∧ (∀ E6, E6 = pUp E5 (F x0 3) (a3 + 2) (E5 (F x0 3) 7) → (-2147483648 ≤ (E6 (F x0 3) (15 + x1)) + 1 ∧ (E6 (F x0 3) (15 + x1)) + 1 < 2147483648) ∧ (∀ E7, E7 = pUp E6 (F x0 3) (15 + x1) ((E6 (F x0 3) (15 + x1)) + 1) → Q (some (0, F x0 51)) (n, K, F, E7))))))) ∧ ((E2 (F x0 3) (15 + x1)) = E2 (F x0 3) (9 + x1) → PC l G 1 mX12_dropEldest (0, 0) [(2, x0), (0, x1), (0, 1)] (n, K, F, E2) (fun r μ => PW l G 7 mX12_comeNow bg 158 [(0, (2, x0)), (1, (0, x1)), (2, (0, x2)), (3, (0, x3))] (r.toList ++ []) μ Q)))))) ∧ (¬ (E (F x0 3) 6 ≤ x4) → (-2147483648 ≤ 6 * x4 ∧ 6 * x4 < 2147483648) ∧ (-2147483648 ≤ 18 + (6 * x4) ∧ 18 + (6 * x4) < 2147483648) ∧ (-2147483648 ≤ (18 + (6 * x4)) + 5 ∧ (18 + (6 * x4)) + 5 < 2147483648) ∧ (K (F x0 46)).1 = 20 ∧ ((0 : Int) ≤ x4 ∧ x4 < ((K (F x0 46)).2 : Int)) ∧ (0 : Int) ≤ F x0 3 ∧ ((0 : Int) ≤ (18 + (6 * x4)) + 5 ∧ (18 + (6 * x4)) + 5 < ((K (F x0 3)).2 : Int)) ∧ (∀ E8, E8 = pUp E (F x0 3) ((18 + (6 * x4)) + 5) (E (F x0 46) x4) → (-2147483648 ≤ x4 + 1 ∧ x4 + 1 < 2147483648) ∧ PW l G 7 mX12_comeNow bg 69 [(0, (2, x0)), (1, (0, x1)), (2, (0, x2)), (3, (0, x3)), (4, (0, x4 + 1))] [] (n, K, F, E8) Q)))) : PW l G 7 mX12_comeNow bg 69 [(0, (2, x0)), (1, (0, x1)), (2, (0, x2)), (3, (0, x3)), (4, (0, x4))] [] (n, K, F, E) Q := by
  refine s_iload (q := 71) 41 4 rfl rfl ?_
  refine s_aload_n (q := 72) 42 0 rfl rfl ?_
  obtain ⟨c1, h⟩ := h
  refine n_getf (q := 75) (jj := 3) 43 12 3 rfl kX12_13 c1 ?_
  refine s_bipush (q := 77) 44 rfl ?_
  obtain ⟨c2, h⟩ := h
  obtain ⟨c3, h⟩ := h
  refine n_iald (q := 78) 45 rfl c2 c3 ?_
  refine s_icmp_ge (q := 81) (tgt := 106) 46 rfl rfl (fun hb => ?_) (fun hb => ?_)
  · skip
    have b4 := hb
    replace h := h.1 hb
    refine s_aload_n (q := 107) 60 0 rfl rfl ?_
    refine n_getf (q := 110) (jj := 3) 61 12 3 rfl kX12_13 c1 ?_
    refine s_bipush (q := 112) 62 rfl ?_
    refine s_dup2 (q := 113) 63 rfl ?_
    obtain ⟨c5, h⟩ := h
    refine n_iald (q := 114) 64 rfl c2 c5 ?_
    refine s_iconst (q := 115) 65 rfl ?_
    obtain ⟨c6, h⟩ := h
    refine n_iadd (q := 116) 66 rfl c6 ?_
    obtain ⟨c7, h⟩ := h
    refine n_iast (q := 117) 67 rfl c7 c2 c5 ?_
    refine PW.nameE (fun E1 eE1 => ?_)
    replace h := h E1 eE1
    refine s_aload_n (q := 118) 68 0 rfl rfl ?_
    refine n_getf (q := 121) (jj := 3) 69 12 3 rfl kX12_13 c1 ?_
    refine s_bipush (q := 123) 70 rfl ?_
    refine s_dup2 (q := 124) 71 rfl ?_
    obtain ⟨c8, h⟩ := h
    refine n_iald (q := 125) 72 rfl c2 c8 ?_
    refine PW.top (b := E (F x0 3) 8) (by exact (congrFun (congrFun eE1 _) _).trans (pUp_k (by decide))) ?_
    refine s_aload_n (q := 126) 73 0 rfl rfl ?_
    refine n_getf (q := 129) (jj := 51) 74 12 51 rfl kX12_473 c1 ?_
    refine s_iadd (q := 130) 75 rfl ?_
    refine n_iast (q := 131) 76 rfl c7 c2 c8 ?_
    refine PW.nameE (fun E2 eE2 => ?_)
    replace h := h E2 eE2
    refine s_aload_n (q := 132) 77 0 rfl rfl ?_
    refine n_getf (q := 135) (jj := 3) 78 12 3 rfl kX12_13 c1 ?_
    refine s_bipush (q := 137) 79 rfl ?_
    refine s_iload_n (q := 138) 80 1 rfl rfl ?_
    obtain ⟨c9, h⟩ := h
    refine n_iadd (q := 139) 81 rfl c9 ?_
    obtain ⟨c10, h⟩ := h
    refine n_iald (q := 140) 82 rfl c2 c10 ?_
    refine s_aload_n (q := 141) 83 0 rfl rfl ?_
    refine n_getf (q := 144) (jj := 3) 84 12 3 rfl kX12_13 c1 ?_
    refine s_bipush (q := 146) 85 rfl ?_
    refine s_iload_n (q := 147) 86 1 rfl rfl ?_
    obtain ⟨c11, h⟩ := h
    refine n_iadd (q := 148) 87 rfl c11 ?_
    obtain ⟨c12, h⟩ := h
    refine n_iald (q := 149) 88 rfl c2 c12 ?_
    refine s_icmp_ne (q := 152) (tgt := 158) 89 rfl rfl (fun hb => ?_) (fun hb => ?_)
    · skip
      have b13 := hb
      replace h := h.1 hb
      refine s_iload_n (q := 159) 94 1 rfl rfl ?_
      refine s_aload_n (q := 160) 95 0 rfl rfl ?_
      refine n_getf (q := 163) (jj := 3) 96 12 3 rfl kX12_13 c1 ?_
      refine s_bipush (q := 165) 97 rfl ?_
      refine s_iload_n (q := 166) 98 1 rfl rfl ?_
      refine n_iadd (q := 167) 99 rfl c9 ?_
      refine n_iald (q := 168) 100 rfl c2 c10 ?_
      refine n_callS (N := mX12_tupleAt) (as := [(0, x1), (0, E2 (F x0 3) (15 + x1))]) (st := []) (q := 171) (d' := 0) 101 rfl uX12_tupleAt kX12_225 rfl ?_
      show PW l G 0 mX12_tupleAt (0, 0) 0 [(0, (0, x1)), (1, (0, E2 (F x0 3) (15 + x1)))] [] (n, K, F, E2) _
      refine s_bipush (q := 2) 0 rfl ?_
      refine s_bipush (q := 4) 1 rfl ?_
      refine s_iload_n (q := 5) 2 0 rfl rfl ?_
      obtain ⟨c14, h⟩ := h
      refine n_imul (q := 6) 3 rfl c14 ?_
      obtain ⟨c15, h⟩ := h
      refine n_iadd (q := 7) 4 rfl c15 ?_
      refine s_iconst (q := 8) 5 rfl ?_
      refine s_iload_n (q := 9) 6 1 rfl rfl ?_
      obtain ⟨c16, h⟩ := h
      refine n_imul (q := 10) 7 rfl c16 ?_
      obtain ⟨c17, h⟩ := h
      refine n_iadd (q := 11) 8 rfl c17 ?_
      refine PW.name (fun a3 ea3 => ?_)
      replace h := h a3 ea3
      refine s_iret 9 rfl rfl ?_
      show PW l G 7 mX12_comeNow bg 171 [(0, (2, x0)), (1, (0, x1)), (2, (0, x2)), (3, (0, x3)), (4, (0, x4))] [(0, a3)] (n, K, F, E2) Q
      refine s_istore (q := 173) (lv' := [(4, (0, a3)), (0, (2, x0)), (1, (0, x1)), (2, (0, x2)), (3, (0, x3))]) 102 rfl rfl ?_
      refine s_aload_n (q := 174) 103 1 rfl rfl ?_
      refine n_getf (q := 177) (jj := 3) 104 12 3 rfl kX12_13 c1 ?_
      refine s_iload (q := 179) 105 0 rfl rfl ?_
      refine s_iload_n (q := 180) 106 3 rfl rfl ?_
      obtain ⟨c18, h⟩ := h
      refine n_iast (q := 181) 107 rfl c7 c2 c18 ?_
      refine PW.nameE (fun E4 eE4 => ?_)
      replace h := h E4 eE4
      refine s_aload_n (q := 182) 108 1 rfl rfl ?_
      refine n_getf (q := 185) (jj := 3) 109 12 3 rfl kX12_13 c1 ?_
      refine s_iload (q := 187) 110 0 rfl rfl ?_
      refine s_iconst (q := 188) 111 rfl ?_
      obtain ⟨c19, h⟩ := h
      refine n_iadd (q := 189) 112 rfl c19 ?_
      refine s_iload_n (q := 190) 113 4 rfl rfl ?_
      obtain ⟨c20, h⟩ := h
      refine n_iast (q := 191) 114 rfl c7 c2 c20 ?_
      refine PW.nameE (fun E5 eE5 => ?_)
      replace h := h E5 eE5
      refine s_aload_n (q := 192) 115 1 rfl rfl ?_
      refine n_getf (q := 195) (jj := 3) 116 12 3 rfl kX12_13 c1 ?_
      refine s_iload (q := 197) 117 0 rfl rfl ?_
      refine s_iconst (q := 198) 118 rfl ?_
      obtain ⟨c21, h⟩ := h
      refine n_iadd (q := 199) 119 rfl c21 ?_
      refine s_aload_n (q := 200) 120 1 rfl rfl ?_
      refine n_getf (q := 203) (jj := 3) 121 12 3 rfl kX12_13 c1 ?_
      refine s_bipush (q := 205) 122 rfl ?_
      refine n_iald (q := 206) 123 rfl c2 c5 ?_
      obtain ⟨c22, h⟩ := h
      refine n_iast (q := 207) 124 rfl c7 c2 c22 ?_
      refine PW.nameE (fun E6 eE6 => ?_)
      replace h := h E6 eE6
      refine s_aload_n (q := 208) 125 1 rfl rfl ?_
      refine n_getf (q := 211) (jj := 3) 126 12 3 rfl kX12_13 c1 ?_
      refine s_bipush (q := 213) 127 rfl ?_
      refine s_iload_n (q := 214) 128 2 rfl rfl ?_
      refine n_iadd (q := 215) 129 rfl c9 ?_
      refine s_dup2 (q := 216) 130 rfl ?_
      refine n_iald (q := 217) 131 rfl c2 c10 ?_
      refine s_iconst (q := 218) 132 rfl ?_
      obtain ⟨c23, h⟩ := h
      refine n_iadd (q := 219) 133 rfl c23 ?_
      refine n_iast (q := 220) 134 rfl c7 c2 c10 ?_
      refine PW.nameE (fun E7 eE7 => ?_)
      replace h := h E7 eE7
      refine s_aload_n (q := 221) 135 1 rfl rfl ?_
      refine n_getf (q := 224) (jj := 51) 136 12 51 rfl kX12_473 c1 ?_
      exact s_iret 137 rfl rfl h
    · have hb := Classical.not_not.mp hb
      have b13 := hb
      replace h := h.2 hb
      refine s_aload_n (q := 153) 90 0 rfl rfl ?_
      refine s_iload_n (q := 154) 91 1 rfl rfl ?_
      refine s_iconst (q := 155) 92 rfl ?_
      refine PW.pick [0, 1, 2, 3] rfl ?_
      exact n_callV (N := mX12_dropEldest) (as := [(0, x1), (0, 1)]) (st := []) (q := 158) (d' := 1) 93 rfl uX12_dropEldest kX12_527 rfl c1 h
  · skip
    have b4 := hb
    replace h := h.2 hb
    refine s_aload_n (q := 82) 47 0 rfl rfl ?_
    refine n_getf (q := 85) (jj := 3) 48 12 3 rfl kX12_13 c1 ?_
    refine s_iload (q := 87) 49 4 rfl rfl ?_
    refine n_callS (N := mX12_operatorAt) (as := [(0, x4)]) (st := [(2, F x0 3)]) (q := 90) (d' := 0) 50 rfl uX12_operatorAt kX12_210 rfl ?_
    show PW l G 0 mX12_operatorAt (0, 0) 0 [(0, (0, x4))] [] (n, K, F, E) _
    refine s_bipush (q := 2) 0 rfl ?_
    refine s_bipush (q := 4) 1 rfl ?_
    refine s_iload_n (q := 5) 2 0 rfl rfl ?_
    obtain ⟨c24, h⟩ := h
    refine n_imul (q := 6) 3 rfl c24 ?_
    obtain ⟨c25, h⟩ := h
    refine n_iadd (q := 7) 4 rfl c25 ?_
    refine s_iret 5 rfl rfl ?_
    show PW l G 7 mX12_comeNow bg 90 [(0, (2, x0)), (1, (0, x1)), (2, (0, x2)), (3, (0, x3)), (4, (0, x4))] [(0, 18 + (6 * x4)), (2, F x0 3)] (n, K, F, E) Q
    refine s_iconst (q := 91) 51 rfl ?_
    obtain ⟨c26, h⟩ := h
    refine n_iadd (q := 92) 52 rfl c26 ?_
    refine s_aload_n (q := 93) 53 0 rfl rfl ?_
    refine n_getf (q := 96) (jj := 46) 54 12 46 rfl kX12_121 c1 ?_
    refine s_iload (q := 98) 55 4 rfl rfl ?_
    obtain ⟨c27, h⟩ := h
    obtain ⟨c28, h⟩ := h
    refine n_iald (q := 99) 56 rfl c27 c28 ?_
    obtain ⟨c29, h⟩ := h
    obtain ⟨c30, h⟩ := h
    refine n_iast (q := 100) 57 rfl c29 c2 c30 ?_
    refine PW.nameE (fun E8 eE8 => ?_)
    replace h := h E8 eE8
    obtain ⟨c31, h⟩ := h
    refine n_iinc (q := 103) (lv' := [(4, (0, x4 + 1)), (0, (2, x0)), (1, (0, x1)), (2, (0, x2)), (3, (0, x3))]) 58 4 rfl rfl c31 rfl ?_
    refine s_goto (tgt := 69) 59 rfl rfl ?_
    refine PW.pick [1, 2, 3, 4, 0] rfl ?_
    exact h
theorem vX12_comeNow_158 {l : Launch} {G : pG} {bg : Nat × Nat} {n : Nat} {K : Int → Nat × Nat} {F E : Int → Int → Int} {Q : Option pV → pM → Prop} (x0 x1 x2 x3 : Int) (h : (K x0).1 = 12 ∧ (-2147483648 ≤ 15 + x1 ∧ 15 + x1 < 2147483648) ∧ (K (F x0 3)).1 = 20 ∧ ((0 : Int) ≤ 15 + x1 ∧ 15 + x1 < ((K (F x0 3)).2 : Int)) ∧ (-2147483648 ≤ 27 * x1 ∧ 27 * x1 < 2147483648) ∧ (-2147483648 ≤ 42 + (27 * x1) ∧ 42 + (27 * x1) < 2147483648) ∧ (-2147483648 ≤ 3 * (E (F x0 3) (15 + x1)) ∧ 3 * (E (F x0 3) (15 + x1)) < 2147483648) ∧ (-2147483648 ≤ (42 + (27 * x1)) + (3 * (E (F x0 3) (15 + x1))) ∧ (42 + (27 * x1)) + (3 * (E (F x0 3) (15 + x1))) < 2147483648) ∧ (∀ a1, a1 = (42 + (27 * x1)) + (3 * (E (F x0 3) (15 + x1))) → (0 : Int) ≤ F x0 3 ∧ ((0 : Int) ≤ a1 ∧ a1 < ((K (F x0 3)).2 : Int)) ∧ (∀ E2, E2 = pUp E (F x0 3) a1 x2 → (-2147483648 ≤ a1 + 1 ∧ a1 + 1 < 2147483648) ∧ ((0 : Int) ≤ a1 + 1 ∧ a1 + 1 < ((K (F x0 3)).2 : Int)) ∧ (∀ E3, E3 = pUp E2 (F x0 3) (a1 + 1) x3 → (-2147483648 ≤ a1 + 2 ∧ a1 + 2 < 2147483648) ∧ ((0 : Int) ≤ 7 ∧ 7 < ((K (F x0 3)).2 : Int)) ∧ ((0 : Int) ≤ a1 + 2 ∧ a1 + 2 < ((K (F x0 3)).2 : Int)) ∧ (∀ E4, E4 = pUp E3 (F x0 3) (a1 + 2) (E3 (F x0 3) 7) → (-2147483648 ≤ (E4 (F x0 3) (15 + x1)) + 1 ∧ (E4 (F x0 3) (15 + x1)) + 1 < 2147483648) ∧ (∀ E5, E5 = pUp E4 (F x0 3) (15 + x1) ((E4 (F x0 3) (15 + x1)) + 1) → Q (some (0, F x0 51)) (n, K, F, E5))))))) : PW l G 7 mX12_comeNow bg 158 [(0, (2, x0)), (1, (0, x1)), (2, (0, x2)), (3, (0, x3))] [] (n, K, F, E) Q := by
  refine s_iload_n (q := 159) 94 1 rfl rfl ?_
  refine s_aload_n (q := 160) 95 0 rfl rfl ?_
  obtain ⟨c1, h⟩ := h
  refine n_getf (q := 163) (jj := 3) 96 12 3 rfl kX12_13 c1 ?_
  refine s_bipush (q := 165) 97 rfl ?_
  refine s_iload_n (q := 166) 98 1 rfl rfl ?_
  obtain ⟨c2, h⟩ := h
  refine n_iadd (q := 167) 99 rfl c2 ?_
  obtain ⟨c3, h⟩ := h
  obtain ⟨c4, h⟩ := h
  refine n_iald (q := 168) 100 rfl c3 c4 ?_
  refine n_callS (N := mX12_tupleAt) (as := [(0, x1), (0, E (F x0 3) (15 + x1))]) (st := []) (q := 171) (d' := 0) 101 rfl uX12_tupleAt kX12_225 rfl ?_
  show PW l G 0 mX12_tupleAt (0, 0) 0 [(0, (0, x1)), (1, (0, E (F x0 3) (15 + x1)))] [] (n, K, F, E) _
  refine s_bipush (q := 2) 0 rfl ?_
  refine s_bipush (q := 4) 1 rfl ?_
  refine s_iload_n (q := 5) 2 0 rfl rfl ?_
  obtain ⟨c5, h⟩ := h
  refine n_imul (q := 6) 3 rfl c5 ?_
  obtain ⟨c6, h⟩ := h
  refine n_iadd (q := 7) 4 rfl c6 ?_
  refine s_iconst (q := 8) 5 rfl ?_
  refine s_iload_n (q := 9) 6 1 rfl rfl ?_
  obtain ⟨c7, h⟩ := h
  refine n_imul (q := 10) 7 rfl c7 ?_
  obtain ⟨c8, h⟩ := h
  refine n_iadd (q := 11) 8 rfl c8 ?_
  refine PW.name (fun a1 ea1 => ?_)
  replace h := h a1 ea1
  refine s_iret 9 rfl rfl ?_
  show PW l G 7 mX12_comeNow bg 171 [(0, (2, x0)), (1, (0, x1)), (2, (0, x2)), (3, (0, x3))] [(0, a1)] (n, K, F, E) Q
  refine s_istore (q := 173) (lv' := [(4, (0, a1)), (0, (2, x0)), (1, (0, x1)), (2, (0, x2)), (3, (0, x3))]) 102 rfl rfl ?_
  refine s_aload_n (q := 174) 103 1 rfl rfl ?_
  refine n_getf (q := 177) (jj := 3) 104 12 3 rfl kX12_13 c1 ?_
  refine s_iload (q := 179) 105 0 rfl rfl ?_
  refine s_iload_n (q := 180) 106 3 rfl rfl ?_
  obtain ⟨c9, h⟩ := h
  obtain ⟨c10, h⟩ := h
  refine n_iast (q := 181) 107 rfl c9 c3 c10 ?_
  refine PW.nameE (fun E2 eE2 => ?_)
  replace h := h E2 eE2
  refine s_aload_n (q := 182) 108 1 rfl rfl ?_
  refine n_getf (q := 185) (jj := 3) 109 12 3 rfl kX12_13 c1 ?_
  refine s_iload (q := 187) 110 0 rfl rfl ?_
  refine s_iconst (q := 188) 111 rfl ?_
  obtain ⟨c11, h⟩ := h
  refine n_iadd (q := 189) 112 rfl c11 ?_
  refine s_iload_n (q := 190) 113 4 rfl rfl ?_
  obtain ⟨c12, h⟩ := h
  refine n_iast (q := 191) 114 rfl c9 c3 c12 ?_
  refine PW.nameE (fun E3 eE3 => ?_)
  replace h := h E3 eE3
  refine s_aload_n (q := 192) 115 1 rfl rfl ?_
  refine n_getf (q := 195) (jj := 3) 116 12 3 rfl kX12_13 c1 ?_
  refine s_iload (q := 197) 117 0 rfl rfl ?_
  refine s_iconst (q := 198) 118 rfl ?_
  obtain ⟨c13, h⟩ := h
  refine n_iadd (q := 199) 119 rfl c13 ?_
  refine s_aload_n (q := 200) 120 1 rfl rfl ?_
  refine n_getf (q := 203) (jj := 3) 121 12 3 rfl kX12_13 c1 ?_
  refine s_bipush (q := 205) 122 rfl ?_
  obtain ⟨c14, h⟩ := h
  refine n_iald (q := 206) 123 rfl c3 c14 ?_
  obtain ⟨c15, h⟩ := h
  refine n_iast (q := 207) 124 rfl c9 c3 c15 ?_
  refine PW.nameE (fun E4 eE4 => ?_)
  replace h := h E4 eE4
  refine s_aload_n (q := 208) 125 1 rfl rfl ?_
  refine n_getf (q := 211) (jj := 3) 126 12 3 rfl kX12_13 c1 ?_
  refine s_bipush (q := 213) 127 rfl ?_
  refine s_iload_n (q := 214) 128 2 rfl rfl ?_
  refine n_iadd (q := 215) 129 rfl c2 ?_
  refine s_dup2 (q := 216) 130 rfl ?_
  refine n_iald (q := 217) 131 rfl c3 c4 ?_
  refine s_iconst (q := 218) 132 rfl ?_
  obtain ⟨c16, h⟩ := h
  refine n_iadd (q := 219) 133 rfl c16 ?_
  refine n_iast (q := 220) 134 rfl c9 c3 c4 ?_
  refine PW.nameE (fun E5 eE5 => ?_)
  replace h := h E5 eE5
  refine s_aload_n (q := 221) 135 1 rfl rfl ?_
  refine n_getf (q := 224) (jj := 51) 136 12 51 rfl kX12_473 c1 ?_
  exact s_iret 137 rfl rfl h
theorem vX12_come_0 {l : Launch} {G : pG} {bg : Nat × Nat} {n : Nat} {K : Int → Nat × Nat} {F E : Int → Int → Int} {Q : Option pV → pM → Prop} (x0 x1 x2 x3 : Int) (h : (K x0).1 = 12 ∧ (∀ F1, F1 = pUp F x0 0 0 → PC l G 7 mX12_comeNow (0, 0) [(2, x0), (0, x1), (0, x2), (0, x3)] (n, K, F1, E) (fun r μ => PW l G 8 mX12_come bg 12 [(0, (2, x0))] (r.toList ++ []) μ Q))) : PW l G 8 mX12_come bg 0 [(0, (2, x0)), (1, (0, x1)), (2, (0, x2)), (3, (0, x3))] [] (n, K, F, E) Q := by
  refine s_aload_n (q := 1) 0 0 rfl rfl ?_
  refine s_iconst (q := 2) 1 rfl ?_
  obtain ⟨c1, h⟩ := h
  refine n_putf (q := 5) (jj := 0) 2 12 0 rfl kX12_174 c1 (Or.inl rfl) ?_
  refine PW.nameF (fun F1 eF1 => ?_)
  replace h := h F1 eF1
  refine s_aload_n (q := 6) 3 0 rfl rfl ?_
  refine s_iload_n (q := 7) 4 1 rfl rfl ?_
  refine s_iload_n (q := 8) 5 2 rfl rfl ?_
  refine s_iload_n (q := 9) 6 3 rfl rfl ?_
  refine PW.pick [0] rfl ?_
  exact n_callV (N := mX12_comeNow) (as := [(0, x1), (0, x2), (0, x3)]) (st := []) (q := 12) (d' := 7) 7 rfl uX12_comeNow kX12_242 rfl c1 h
theorem vX12_come_12 {l : Launch} {G : pG} {bg : Nat × Nat} {n : Nat} {K : Int → Nat × Nat} {F E : Int → Int → Int} {Q : Option pV → pM → Prop} (x0 s0 : Int) (h : ((s0 < 0 → ((0 ≤ s0 → (K x0).1 = 12 ∧ (∀ F1, F1 = pUp F x0 61 (F x0 52) → (∀ F2, F2 = pUp F1 x0 62 (F x0 53) → PW l G 8 mX12_come bg 89 [(0, (2, x0)), (4, (0, s0)), (5, (0, 0))] [] (n, K, F2, E) Q))) ∧ (¬ (0 ≤ s0) → ((¬ s0 = (-5) → (K x0).1 = 12 ∧ PC l G 0 mX12_tell (0, 0) [(2, x0), (0, s0)] (n, K, F, E) (fun r μ => PW l G 8 mX12_come bg 122 [] (r.toList ++ []) μ Q)) ∧ (s0 = (-5) → (K x0).1 = 12 ∧ (∀ F3, F3 = pUp F x0 61 (F x0 52) → (∀ F4, F4 = pUp F3 x0 62 (F x0 53) → PW l G 8 mX12_come bg 89 [(0, (2, x0)), (4, (0, s0)), (5, (0, 0))] [] (n, K, F4, E) Q))))))) ∧ (¬ (s0 < 0) → (K x0).1 = 12 ∧ (∀ F5, F5 = pUp F x0 59 (F x0 51) → PW l G 8 mX12_come bg 30 [(0, (2, x0)), (4, (0, s0)), (5, (0, 0))] [] (n, K, F5, E) Q)))) : PW l G 8 mX12_come bg 12 [(0, (2, x0))] [(0, s0)] (n, K, F, E) Q := by
  refine s_istore (q := 14) (lv' := [(4, (0, s0)), (0, (2, x0))]) 8 rfl rfl ?_
  refine s_iload (q := 16) 9 0 rfl rfl ?_
  refine s_if_lt (q := 19) (tgt := 58) 10 rfl rfl (fun hb => ?_) (fun hb => ?_)
  · skip
    have b1 := hb
    replace h := h.1 hb
    refine s_iload (q := 60) 30 0 rfl rfl ?_
    refine s_if_ge (q := 63) (tgt := 70) 31 rfl rfl (fun hb => ?_) (fun hb => ?_)
    · skip
      have b2 := hb
      replace h := h.1 hb
      refine s_aload_n (q := 71) 35 1 rfl rfl ?_
      refine s_aload_n (q := 72) 36 1 rfl rfl ?_
      obtain ⟨c3, h⟩ := h
      refine n_getf (q := 75) (jj := 52) 37 12 52 rfl kX12_504 c3 ?_
      refine n_putf (q := 78) (jj := 61) 38 12 61 rfl kX12_533 c3 (Or.inl rfl) ?_
      refine PW.nameF (fun F1 eF1 => ?_)
      replace h := h F1 eF1
      refine s_aload_n (q := 79) 39 1 rfl rfl ?_
      refine s_aload_n (q := 80) 40 1 rfl rfl ?_
      refine n_getf (q := 83) (jj := 53) 41 12 53 rfl kX12_495 c3 ?_
      refine PW.top (b := F x0 53) (by exact (congrFun (congrFun eF1 _) _).trans (pUp_k (by decide))) ?_
      refine n_putf (q := 86) (jj := 62) 42 12 62 rfl kX12_536 c3 (Or.inl rfl) ?_
      refine PW.nameF (fun F2 eF2 => ?_)
      replace h := h F2 eF2
      refine s_iconst (q := 87) 43 rfl ?_
      refine s_istore (q := 89) (lv' := [(5, (0, 0)), (4, (0, s0)), (0, (2, x0))]) 44 rfl rfl ?_
      refine PW.pick [2, 1, 0] rfl ?_
      exact h
    · skip
      have b2 := hb
      replace h := h.2 hb
      refine s_iload (q := 65) 32 0 rfl rfl ?_
      refine s_bipush (q := 67) 33 rfl ?_
      refine s_icmp_ne (q := 70) (tgt := 116) 34 rfl rfl (fun hb => ?_) (fun hb => ?_)
      · skip
        have b4 := hb
        replace h := h.1 hb
        refine s_aload_n (q := 117) 58 1 rfl rfl ?_
        refine s_iload (q := 119) 59 0 rfl rfl ?_
        obtain ⟨c5, h⟩ := h
        refine PW.pick [] rfl ?_
        exact n_callV (N := mX12_tell) (as := [(0, s0)]) (st := []) (q := 122) (d' := 0) 60 rfl uX12_tell kX12_190 rfl c5 h
      · have hb := Classical.not_not.mp hb
        have b4 := hb
        replace h := h.2 hb
        refine s_aload_n (q := 71) 35 1 rfl rfl ?_
        refine s_aload_n (q := 72) 36 1 rfl rfl ?_
        obtain ⟨c6, h⟩ := h
        refine n_getf (q := 75) (jj := 52) 37 12 52 rfl kX12_504 c6 ?_
        refine n_putf (q := 78) (jj := 61) 38 12 61 rfl kX12_533 c6 (Or.inl rfl) ?_
        refine PW.nameF (fun F3 eF3 => ?_)
        replace h := h F3 eF3
        refine s_aload_n (q := 79) 39 1 rfl rfl ?_
        refine s_aload_n (q := 80) 40 1 rfl rfl ?_
        refine n_getf (q := 83) (jj := 53) 41 12 53 rfl kX12_495 c6 ?_
        refine PW.top (b := F x0 53) (by exact (congrFun (congrFun eF3 _) _).trans (pUp_k (by decide))) ?_
        refine n_putf (q := 86) (jj := 62) 42 12 62 rfl kX12_536 c6 (Or.inl rfl) ?_
        refine PW.nameF (fun F4 eF4 => ?_)
        replace h := h F4 eF4
        refine s_iconst (q := 87) 43 rfl ?_
        refine s_istore (q := 89) (lv' := [(5, (0, 0)), (4, (0, s0)), (0, (2, x0))]) 44 rfl rfl ?_
        refine PW.pick [2, 1, 0] rfl ?_
        exact h
  · skip
    have b1 := hb
    replace h := h.2 hb
    refine s_aload_n (q := 20) 11 1 rfl rfl ?_
    refine s_aload_n (q := 21) 12 1 rfl rfl ?_
    obtain ⟨c7, h⟩ := h
    refine n_getf (q := 24) (jj := 51) 13 12 51 rfl kX12_473 c7 ?_
    refine n_putf (q := 27) (jj := 59) 14 12 59 rfl kX12_530 c7 (Or.inl rfl) ?_
    refine PW.nameF (fun F5 eF5 => ?_)
    replace h := h F5 eF5
    refine s_iconst (q := 28) 15 rfl ?_
    refine s_istore (q := 30) (lv' := [(5, (0, 0)), (4, (0, s0)), (0, (2, x0))]) 16 rfl rfl ?_
    refine PW.pick [2, 1, 0] rfl ?_
    exact h
theorem vX12_come_30 {l : Launch} {G : pG} {bg : Nat × Nat} {n : Nat} {K : Int → Nat × Nat} {F E : Int → Int → Int} {Q : Option pV → pM → Prop} (x0 x4 x5 : Int) (h : ((297 ≤ x5 → ((0 ≤ x4 → (K x0).1 = 12 ∧ (∀ F1, F1 = pUp F x0 61 (F x0 52) → (∀ F2, F2 = pUp F1 x0 62 (F x0 53) → PW l G 8 mX12_come bg 89 [(0, (2, x0)), (4, (0, x4)), (5, (0, 0))] [] (n, K, F2, E) Q))) ∧ (¬ (0 ≤ x4) → ((¬ x4 = (-5) → (K x0).1 = 12 ∧ PC l G 0 mX12_tell (0, 0) [(2, x0), (0, x4)] (n, K, F, E) (fun r μ => PW l G 8 mX12_come bg 122 [] (r.toList ++ []) μ Q)) ∧ (x4 = (-5) → (K x0).1 = 12 ∧ (∀ F3, F3 = pUp F x0 61 (F x0 52) → (∀ F4, F4 = pUp F3 x0 62 (F x0 53) → PW l G 8 mX12_come bg 89 [(0, (2, x0)), (4, (0, x4)), (5, (0, 0))] [] (n, K, F4, E) Q))))))) ∧ (¬ (297 ≤ x5) → (K x0).1 = 12 ∧ (K (F x0 54)).1 = 20 ∧ ((0 : Int) ≤ x5 ∧ x5 < ((K (F x0 54)).2 : Int)) ∧ (0 : Int) ≤ F x0 58 ∧ (K (F x0 58)).1 = 20 ∧ ((0 : Int) ≤ x5 ∧ x5 < ((K (F x0 58)).2 : Int)) ∧ (∀ E5, E5 = pUp E (F x0 58) x5 (E (F x0 54) x5) → (-2147483648 ≤ x5 + 1 ∧ x5 + 1 < 2147483648) ∧ PW l G 8 mX12_come bg 30 [(0, (2, x0)), (4, (0, x4)), (5, (0, x5 + 1))] [] (n, K, F, E5) Q)))) : PW l G 8 mX12_come bg 30 [(0, (2, x0)), (4, (0, x4)), (5, (0, x5))] [] (n, K, F, E) Q := by
  refine s_iload (q := 32) 17 2 rfl rfl ?_
  refine s_sipush (q := 35) 18 rfl ?_
  refine s_icmp_ge (q := 38) (tgt := 58) 19 rfl rfl (fun hb => ?_) (fun hb => ?_)
  · skip
    have b1 := hb
    replace h := h.1 hb
    refine s_iload (q := 60) 30 1 rfl rfl ?_
    refine s_if_ge (q := 63) (tgt := 70) 31 rfl rfl (fun hb => ?_) (fun hb => ?_)
    · skip
      have b2 := hb
      replace h := h.1 hb
      refine s_aload_n (q := 71) 35 0 rfl rfl ?_
      refine s_aload_n (q := 72) 36 0 rfl rfl ?_
      obtain ⟨c3, h⟩ := h
      refine n_getf (q := 75) (jj := 52) 37 12 52 rfl kX12_504 c3 ?_
      refine n_putf (q := 78) (jj := 61) 38 12 61 rfl kX12_533 c3 (Or.inl rfl) ?_
      refine PW.nameF (fun F1 eF1 => ?_)
      replace h := h F1 eF1
      refine s_aload_n (q := 79) 39 0 rfl rfl ?_
      refine s_aload_n (q := 80) 40 0 rfl rfl ?_
      refine n_getf (q := 83) (jj := 53) 41 12 53 rfl kX12_495 c3 ?_
      refine PW.top (b := F x0 53) (by exact (congrFun (congrFun eF1 _) _).trans (pUp_k (by decide))) ?_
      refine n_putf (q := 86) (jj := 62) 42 12 62 rfl kX12_536 c3 (Or.inl rfl) ?_
      refine PW.nameF (fun F2 eF2 => ?_)
      replace h := h F2 eF2
      refine s_iconst (q := 87) 43 rfl ?_
      refine s_istore (q := 89) (lv' := [(5, (0, 0)), (0, (2, x0)), (4, (0, x4))]) 44 rfl rfl ?_
      refine PW.pick [1, 2, 0] rfl ?_
      exact h
    · skip
      have b2 := hb
      replace h := h.2 hb
      refine s_iload (q := 65) 32 1 rfl rfl ?_
      refine s_bipush (q := 67) 33 rfl ?_
      refine s_icmp_ne (q := 70) (tgt := 116) 34 rfl rfl (fun hb => ?_) (fun hb => ?_)
      · skip
        have b4 := hb
        replace h := h.1 hb
        refine s_aload_n (q := 117) 58 0 rfl rfl ?_
        refine s_iload (q := 119) 59 1 rfl rfl ?_
        obtain ⟨c5, h⟩ := h
        refine PW.pick [] rfl ?_
        exact n_callV (N := mX12_tell) (as := [(0, x4)]) (st := []) (q := 122) (d' := 0) 60 rfl uX12_tell kX12_190 rfl c5 h
      · have hb := Classical.not_not.mp hb
        have b4 := hb
        replace h := h.2 hb
        refine s_aload_n (q := 71) 35 0 rfl rfl ?_
        refine s_aload_n (q := 72) 36 0 rfl rfl ?_
        obtain ⟨c6, h⟩ := h
        refine n_getf (q := 75) (jj := 52) 37 12 52 rfl kX12_504 c6 ?_
        refine n_putf (q := 78) (jj := 61) 38 12 61 rfl kX12_533 c6 (Or.inl rfl) ?_
        refine PW.nameF (fun F3 eF3 => ?_)
        replace h := h F3 eF3
        refine s_aload_n (q := 79) 39 0 rfl rfl ?_
        refine s_aload_n (q := 80) 40 0 rfl rfl ?_
        refine n_getf (q := 83) (jj := 53) 41 12 53 rfl kX12_495 c6 ?_
        refine PW.top (b := F x0 53) (by exact (congrFun (congrFun eF3 _) _).trans (pUp_k (by decide))) ?_
        refine n_putf (q := 86) (jj := 62) 42 12 62 rfl kX12_536 c6 (Or.inl rfl) ?_
        refine PW.nameF (fun F4 eF4 => ?_)
        replace h := h F4 eF4
        refine s_iconst (q := 87) 43 rfl ?_
        refine s_istore (q := 89) (lv' := [(5, (0, 0)), (0, (2, x0)), (4, (0, x4))]) 44 rfl rfl ?_
        refine PW.pick [1, 2, 0] rfl ?_
        exact h
  · skip
    have b1 := hb
    replace h := h.2 hb
    refine s_aload_n (q := 39) 20 0 rfl rfl ?_
    obtain ⟨c7, h⟩ := h
    refine n_getf (q := 42) (jj := 58) 21 12 58 rfl kX12_136 c7 ?_
    refine s_iload (q := 44) 22 2 rfl rfl ?_
    refine s_aload_n (q := 45) 23 0 rfl rfl ?_
    refine n_getf (q := 48) (jj := 54) 24 12 54 rfl kX12_127 c7 ?_
    refine s_iload (q := 50) 25 2 rfl rfl ?_
    obtain ⟨c8, h⟩ := h
    obtain ⟨c9, h⟩ := h
    refine n_iald (q := 51) 26 rfl c8 c9 ?_
    obtain ⟨c10, h⟩ := h
    obtain ⟨c11, h⟩ := h
    obtain ⟨c12, h⟩ := h
    refine n_iast (q := 52) 27 rfl c10 c11 c12 ?_
    refine PW.nameE (fun E5 eE5 => ?_)
    replace h := h E5 eE5
    obtain ⟨c13, h⟩ := h
    refine n_iinc (q := 55) (lv' := [(5, (0, x5 + 1)), (0, (2, x0)), (4, (0, x4))]) 28 2 rfl rfl c13 rfl ?_
    refine s_goto (tgt := 30) 29 rfl rfl ?_
    refine PW.pick [1, 2, 0] rfl ?_
    exact h
theorem vX12_come_89 {l : Launch} {G : pG} {bg : Nat × Nat} {n : Nat} {K : Int → Nat × Nat} {F E : Int → Int → Int} {Q : Option pV → pM → Prop} (x0 x4 x5 : Int) (h : ((99 ≤ x5 → (K x0).1 = 12 ∧ PC l G 0 mX12_tell (0, 0) [(2, x0), (0, x4)] (n, K, F, E) (fun r μ => PW l G 8 mX12_come bg 122 [] (r.toList ++ []) μ Q)) ∧ (¬ (99 ≤ x5) → (K x0).1 = 12 ∧ (K (F x0 55)).1 = 20 ∧ ((0 : Int) ≤ x5 ∧ x5 < ((K (F x0 55)).2 : Int)) ∧ (0 : Int) ≤ F x0 60 ∧ (K (F x0 60)).1 = 20 ∧ ((0 : Int) ≤ x5 ∧ x5 < ((K (F x0 60)).2 : Int)) ∧ (∀ E1, E1 = pUp E (F x0 60) x5 (E (F x0 55) x5) → (-2147483648 ≤ x5 + 1 ∧ x5 + 1 < 2147483648) ∧ PW l G 8 mX12_come bg 89 [(0, (2, x0)), (4, (0, x4)), (5, (0, x5 + 1))] [] (n, K, F, E1) Q)))) : PW l G 8 mX12_come bg 89 [(0, (2, x0)), (4, (0, x4)), (5, (0, x5))] [] (n, K, F, E) Q := by
  refine s_iload (q := 91) 45 2 rfl rfl ?_
  refine s_bipush (q := 93) 46 rfl ?_
  refine s_icmp_ge (q := 96) (tgt := 116) 47 rfl rfl (fun hb => ?_) (fun hb => ?_)
  · skip
    have b1 := hb
    replace h := h.1 hb
    refine s_aload_n (q := 117) 58 0 rfl rfl ?_
    refine s_iload (q := 119) 59 1 rfl rfl ?_
    obtain ⟨c2, h⟩ := h
    refine PW.pick [] rfl ?_
    exact n_callV (N := mX12_tell) (as := [(0, x4)]) (st := []) (q := 122) (d' := 0) 60 rfl uX12_tell kX12_190 rfl c2 h
  · skip
    have b1 := hb
    replace h := h.2 hb
    refine s_aload_n (q := 97) 48 0 rfl rfl ?_
    obtain ⟨c3, h⟩ := h
    refine n_getf (q := 100) (jj := 60) 49 12 60 rfl kX12_139 c3 ?_
    refine s_iload (q := 102) 50 2 rfl rfl ?_
    refine s_aload_n (q := 103) 51 0 rfl rfl ?_
    refine n_getf (q := 106) (jj := 55) 52 12 55 rfl kX12_130 c3 ?_
    refine s_iload (q := 108) 53 2 rfl rfl ?_
    obtain ⟨c4, h⟩ := h
    obtain ⟨c5, h⟩ := h
    refine n_iald (q := 109) 54 rfl c4 c5 ?_
    obtain ⟨c6, h⟩ := h
    obtain ⟨c7, h⟩ := h
    obtain ⟨c8, h⟩ := h
    refine n_iast (q := 110) 55 rfl c6 c7 c8 ?_
    refine PW.nameE (fun E1 eE1 => ?_)
    replace h := h E1 eE1
    obtain ⟨c9, h⟩ := h
    refine n_iinc (q := 113) (lv' := [(5, (0, x5 + 1)), (0, (2, x0)), (4, (0, x4))]) 56 2 rfl rfl c9 rfl ?_
    refine s_goto (tgt := 89) 57 rfl rfl ?_
    refine PW.pick [1, 2, 0] rfl ?_
    exact h
theorem vX12_come_122 {l : Launch} {G : pG} {bg : Nat × Nat} {n : Nat} {K : Int → Nat × Nat} {F E : Int → Int → Int} {Q : Option pV → pM → Prop} (s0 : Int) (h : Q (some (0, s0)) (n, K, F, E)) : PW l G 8 mX12_come bg 122 [] [(0, s0)] (n, K, F, E) Q := by
  exact s_iret 61 rfl rfl h
theorem vX12_strikeNow_0 {l : Launch} {G : pG} {bg : Nat × Nat} {n : Nat} {K : Int → Nat × Nat} {F E : Int → Int → Int} {Q : Option pV → pM → Prop} (x0 x1 : Int) (h : (K x0).1 = 12 ∧ (K (F x0 3)).1 = 20 ∧ ((0 : Int) ≤ 6 ∧ 6 < ((K (F x0 3)).2 : Int)) ∧ (-9223372036854775808 ≤ (E (F x0 3) 6) - 1 ∧ (E (F x0 3) 6) - 1 < 9223372036854775808) ∧ ((0 ≤ x1 ∧ x1 ≤ (E (F x0 3) 6) - 1 → PC l G 1 mX12_remember (0, 0) [(2, x0), (0, 2)] (n, K, F, E) (fun r μ => PW l G 2 mX12_strikeNow bg 16 [(0, (2, x0)), (1, (0, x1))] (r.toList ++ []) μ Q)) ∧ (¬ (0 ≤ x1 ∧ x1 ≤ (E (F x0 3) 6) - 1) → Q (some (0, (-2))) (n, K, F, E)))) : PW l G 2 mX12_strikeNow bg 0 [(0, (2, x0)), (1, (0, x1))] [] (n, K, F, E) Q := by
  refine s_aload_n (q := 1) 0 0 rfl rfl ?_
  refine s_iload_n (q := 2) 1 1 rfl rfl ?_
  obtain ⟨c1, h⟩ := h
  obtain ⟨c2, h⟩ := h
  obtain ⟨c3, h⟩ := h
  obtain ⟨c4, h⟩ := h
  refine n_callV (N := mX12_isOperator) (as := [(0, x1)]) (st := []) (q := 5) (d' := 1) 2 rfl uX12_isOperator kX12_220 rfl c1 (pX12_isOperator c1 c2 c3 c4 ?_)
  show PW l G 2 mX12_strikeNow bg 5 [(0, (2, x0)), (1, (0, x1))] [(0, bI (0 ≤ x1 ∧ x1 ≤ (E (F x0 3) 6) - 1))] (n, K, F, E) Q
  refine s_if_ne (q := 8) (tgt := 11) 3 rfl rfl (fun hb => ?_) (fun hb => ?_)
  · have hb := bI_t hb
    have b5 := hb
    replace h := h.1 hb
    refine s_aload_n (q := 12) 6 0 rfl rfl ?_
    refine s_iconst (q := 13) 7 rfl ?_
    refine PW.pick [0, 1] rfl ?_
    exact n_callV (N := mX12_remember) (as := [(0, 2)]) (st := []) (q := 16) (d' := 1) 8 rfl uX12_remember kX12_207 rfl c1 h
  · have hb := bI_f2 hb
    have b5 := hb
    replace h := h.2 hb
    refine s_bipush (q := 10) 4 rfl ?_
    exact s_iret 5 rfl rfl h
theorem vX12_strikeNow_16 {l : Launch} {G : pG} {bg : Nat × Nat} {n : Nat} {K : Int → Nat × Nat} {F E : Int → Int → Int} {Q : Option pV → pM → Prop} (x0 x1 : Int) (h : (K x0).1 = 12 ∧ (K (F x0 3)).1 = 20 ∧ ((0 : Int) ≤ 6 ∧ 6 < ((K (F x0 3)).2 : Int)) ∧ (-2147483648 ≤ (E (F x0 3) 6) - 1 ∧ (E (F x0 3) 6) - 1 < 2147483648) ∧ (0 : Int) ≤ F x0 3 ∧ (∀ E1, E1 = pUp E (F x0 3) 6 ((E (F x0 3) 6) - 1) → (-2147483648 ≤ 6 * x1 ∧ 6 * x1 < 2147483648) ∧ (-2147483648 ≤ 18 + (6 * x1) ∧ 18 + (6 * x1) < 2147483648) ∧ PW l G 2 mX12_strikeNow bg 32 [(0, (2, x0)), (2, (0, 18 + (6 * x1)))] [] (n, K, F, E1) Q)) : PW l G 2 mX12_strikeNow bg 16 [(0, (2, x0)), (1, (0, x1))] [] (n, K, F, E) Q := by
  refine s_aload_n (q := 17) 9 0 rfl rfl ?_
  obtain ⟨c1, h⟩ := h
  refine n_getf (q := 20) (jj := 3) 10 12 3 rfl kX12_13 c1 ?_
  refine s_bipush (q := 22) 11 rfl ?_
  refine s_dup2 (q := 23) 12 rfl ?_
  obtain ⟨c2, h⟩ := h
  obtain ⟨c3, h⟩ := h
  refine n_iald (q := 24) 13 rfl c2 c3 ?_
  refine s_iconst (q := 25) 14 rfl ?_
  obtain ⟨c4, h⟩ := h
  refine n_isub (q := 26) 15 rfl c4 ?_
  obtain ⟨c5, h⟩ := h
  refine n_iast (q := 27) 16 rfl c5 c2 c3 ?_
  refine PW.nameE (fun E1 eE1 => ?_)
  replace h := h E1 eE1
  refine s_iload_n (q := 28) 17 1 rfl rfl ?_
  refine n_callS (N := mX12_operatorAt) (as := [(0, x1)]) (st := []) (q := 31) (d' := 0) 18 rfl uX12_operatorAt kX12_210 rfl ?_
  show PW l G 0 mX12_operatorAt (0, 0) 0 [(0, (0, x1))] [] (n, K, F, E1) _
  refine s_bipush (q := 2) 0 rfl ?_
  refine s_bipush (q := 4) 1 rfl ?_
  refine s_iload_n (q := 5) 2 0 rfl rfl ?_
  obtain ⟨c6, h⟩ := h
  refine n_imul (q := 6) 3 rfl c6 ?_
  obtain ⟨c7, h⟩ := h
  refine n_iadd (q := 7) 4 rfl c7 ?_
  refine s_iret 5 rfl rfl ?_
  show PW l G 2 mX12_strikeNow bg 31 [(0, (2, x0)), (1, (0, x1))] [(0, 18 + (6 * x1))] (n, K, F, E1) Q
  refine s_istore_n (q := 32) (lv' := [(2, (0, 18 + (6 * x1))), (0, (2, x0)), (1, (0, x1))]) 19 rfl rfl ?_
  refine PW.pick [1, 0] rfl ?_
  exact h
theorem vX12_strikeNow_32 {l : Launch} {G : pG} {bg : Nat × Nat} {n : Nat} {K : Int → Nat × Nat} {F E : Int → Int → Int} {Q : Option pV → pM → Prop} (x0 x2 : Int) (h : (K x0).1 = 12 ∧ (K (F x0 3)).1 = 20 ∧ ((0 : Int) ≤ 6 ∧ 6 < ((K (F x0 3)).2 : Int)) ∧ (-2147483648 ≤ 6 * (E (F x0 3) 6) ∧ 6 * (E (F x0 3) 6) < 2147483648) ∧ (-2147483648 ≤ 18 + (6 * (E (F x0 3) 6)) ∧ 18 + (6 * (E (F x0 3) 6)) < 2147483648) ∧ ((18 + (6 * (E (F x0 3) 6)) ≤ x2 → Q (some (0, E (F x0 3) 6)) (n, K, F, E)) ∧ (¬ (18 + (6 * (E (F x0 3) 6)) ≤ x2) → (-2147483648 ≤ x2 + 6 ∧ x2 + 6 < 2147483648) ∧ ((0 : Int) ≤ x2 + 6 ∧ x2 + 6 < ((K (F x0 3)).2 : Int)) ∧ (0 : Int) ≤ F x0 3 ∧ ((0 : Int) ≤ x2 ∧ x2 < ((K (F x0 3)).2 : Int)) ∧ (∀ E1, E1 = pUp E (F x0 3) x2 (E (F x0 3) (x2 + 6)) → (-2147483648 ≤ x2 + 1 ∧ x2 + 1 < 2147483648) ∧ PW l G 2 mX12_strikeNow bg 32 [(0, (2, x0)), (2, (0, x2 + 1))] [] (n, K, F, E1) Q)))) : PW l G 2 mX12_strikeNow bg 32 [(0, (2, x0)), (2, (0, x2))] [] (n, K, F, E) Q := by
  refine s_iload_n (q := 33) 20 1 rfl rfl ?_
  refine s_aload_n (q := 34) 21 0 rfl rfl ?_
  obtain ⟨c1, h⟩ := h
  refine n_getf (q := 37) (jj := 3) 22 12 3 rfl kX12_13 c1 ?_
  refine s_bipush (q := 39) 23 rfl ?_
  obtain ⟨c2, h⟩ := h
  obtain ⟨c3, h⟩ := h
  refine n_iald (q := 40) 24 rfl c2 c3 ?_
  refine n_callS (N := mX12_operatorAt) (as := [(0, E (F x0 3) 6)]) (st := [(0, x2)]) (q := 43) (d' := 0) 25 rfl uX12_operatorAt kX12_210 rfl ?_
  show PW l G 0 mX12_operatorAt (0, 0) 0 [(0, (0, E (F x0 3) 6))] [] (n, K, F, E) _
  refine s_bipush (q := 2) 0 rfl ?_
  refine s_bipush (q := 4) 1 rfl ?_
  refine s_iload_n (q := 5) 2 0 rfl rfl ?_
  obtain ⟨c4, h⟩ := h
  refine n_imul (q := 6) 3 rfl c4 ?_
  obtain ⟨c5, h⟩ := h
  refine n_iadd (q := 7) 4 rfl c5 ?_
  refine s_iret 5 rfl rfl ?_
  show PW l G 2 mX12_strikeNow bg 43 [(0, (2, x0)), (2, (0, x2))] [(0, 18 + (6 * (E (F x0 3) 6))), (0, x2)] (n, K, F, E) Q
  refine s_icmp_ge (q := 46) (tgt := 67) 26 rfl rfl (fun hb => ?_) (fun hb => ?_)
  · skip
    have b6 := hb
    replace h := h.1 hb
    refine s_aload_n (q := 68) 39 0 rfl rfl ?_
    refine n_getf (q := 71) (jj := 3) 40 12 3 rfl kX12_13 c1 ?_
    refine s_bipush (q := 73) 41 rfl ?_
    refine n_iald (q := 74) 42 rfl c2 c3 ?_
    exact s_iret 43 rfl rfl h
  · skip
    have b6 := hb
    replace h := h.2 hb
    refine s_aload_n (q := 47) 27 0 rfl rfl ?_
    refine n_getf (q := 50) (jj := 3) 28 12 3 rfl kX12_13 c1 ?_
    refine s_iload_n (q := 51) 29 1 rfl rfl ?_
    refine s_aload_n (q := 52) 30 0 rfl rfl ?_
    refine n_getf (q := 55) (jj := 3) 31 12 3 rfl kX12_13 c1 ?_
    refine s_iload_n (q := 56) 32 1 rfl rfl ?_
    refine s_bipush (q := 58) 33 rfl ?_
    obtain ⟨c7, h⟩ := h
    refine n_iadd (q := 59) 34 rfl c7 ?_
    obtain ⟨c8, h⟩ := h
    refine n_iald (q := 60) 35 rfl c2 c8 ?_
    obtain ⟨c9, h⟩ := h
    obtain ⟨c10, h⟩ := h
    refine n_iast (q := 61) 36 rfl c9 c2 c10 ?_
    refine PW.nameE (fun E1 eE1 => ?_)
    replace h := h E1 eE1
    obtain ⟨c11, h⟩ := h
    refine n_iinc (q := 64) (lv' := [(2, (0, x2 + 1)), (0, (2, x0))]) 37 1 rfl rfl c11 rfl ?_
    refine s_goto (tgt := 32) 38 rfl rfl ?_
    refine PW.pick [1, 0] rfl ?_
    exact h
theorem vX12_strike_0 {l : Launch} {G : pG} {bg : Nat × Nat} {n : Nat} {K : Int → Nat × Nat} {F E : Int → Int → Int} {Q : Option pV → pM → Prop} (x0 x1 : Int) (h : (K x0).1 = 12 ∧ (∀ F1, F1 = pUp F x0 0 0 → PC l G 2 mX12_strikeNow (0, 0) [(2, x0), (0, x1)] (n, K, F1, E) (fun r μ => PW l G 3 mX12_strike bg 11 [] (r.toList ++ [(2, x0)]) μ Q))) : PW l G 3 mX12_strike bg 0 [(0, (2, x0)), (1, (0, x1))] [] (n, K, F, E) Q := by
  refine s_aload_n (q := 1) 0 0 rfl rfl ?_
  refine s_iconst (q := 2) 1 rfl ?_
  obtain ⟨c1, h⟩ := h
  refine n_putf (q := 5) (jj := 0) 2 12 0 rfl kX12_174 c1 (Or.inl rfl) ?_
  refine PW.nameF (fun F1 eF1 => ?_)
  replace h := h F1 eF1
  refine s_aload_n (q := 6) 3 0 rfl rfl ?_
  refine s_aload_n (q := 7) 4 0 rfl rfl ?_
  refine s_iload_n (q := 8) 5 1 rfl rfl ?_
  refine PW.pick [] rfl ?_
  exact n_callV (N := mX12_strikeNow) (as := [(0, x1)]) (st := [(2, x0)]) (q := 11) (d' := 2) 6 rfl uX12_strikeNow kX12_539 rfl c1 h
theorem vX12_strike_11 {l : Launch} {G : pG} {bg : Nat × Nat} {n : Nat} {K : Int → Nat × Nat} {F E : Int → Int → Int} {Q : Option pV → pM → Prop} (s0 s1 : Int) (h : (K s1).1 = 12 ∧ PC l G 0 mX12_tell (0, 0) [(2, s1), (0, s0)] (n, K, F, E) (fun r μ => PW l G 3 mX12_strike bg 14 [] (r.toList ++ []) μ Q)) : PW l G 3 mX12_strike bg 11 [] [(0, s0), (2, s1)] (n, K, F, E) Q := by
  obtain ⟨c1, h⟩ := h
  refine PW.pick [] rfl ?_
  exact n_callV (N := mX12_tell) (as := [(0, s0)]) (st := []) (q := 14) (d' := 0) 7 rfl uX12_tell kX12_190 rfl c1 h
theorem vX12_strike_14 {l : Launch} {G : pG} {bg : Nat × Nat} {n : Nat} {K : Int → Nat × Nat} {F E : Int → Int → Int} {Q : Option pV → pM → Prop} (s0 : Int) (h : Q (some (0, s0)) (n, K, F, E)) : PW l G 3 mX12_strike bg 14 [] [(0, s0)] (n, K, F, E) Q := by
  exact s_iret 8 rfl rfl h
theorem vX12_windowNow_0 {l : Launch} {G : pG} {bg : Nat × Nat} {n : Nat} {K : Int → Nat × Nat} {F E : Int → Int → Int} {Q : Option pV → pM → Prop} (x0 x1 x2 : Int) (h : ((¬ (0 ≤ x1 ∧ x1 < 3) → Q (some (0, (-1))) (n, K, F, E)) ∧ (0 ≤ x1 ∧ x1 < 3 → ((1 ≤ x2 ∧ x2 ≤ 9 → (K x0).1 = 12 ∧ (-2147483648 ≤ 9 + x1 ∧ 9 + x1 < 2147483648) ∧ (K (F x0 3)).1 = 20 ∧ ((0 : Int) ≤ 9 + x1 ∧ 9 + x1 < ((K (F x0 3)).2 : Int)) ∧ ((¬ (E (F x0 3) (9 + x1)) = x2 → PC l G 1 mX12_remember (0, 0) [(2, x0), (0, 3)] (n, K, F, E) (fun r μ => PW l G 2 mX12_windowNow bg 42 [(0, (2, x0)), (1, (0, x1)), (2, (0, x2))] (r.toList ++ []) μ Q)) ∧ ((E (F x0 3) (9 + x1)) = x2 → Q (some (0, (-3))) (n, K, F, E)))) ∧ (¬ (1 ≤ x2 ∧ x2 ≤ 9) → Q (some (0, (-1))) (n, K, F, E)))))) : PW l G 2 mX12_windowNow bg 0 [(0, (2, x0)), (1, (0, x1)), (2, (0, x2))] [] (n, K, F, E) Q := by
  refine s_iload_n (q := 1) 0 1 rfl rfl ?_
  refine n_callS (N := mX12_isRelation) (as := [(0, x1)]) (st := []) (q := 4) (d' := 1) 1 rfl uX12_isRelation kX12_201 rfl (pX12_isRelation ?_)
  show PW l G 2 mX12_windowNow bg 4 [(0, (2, x0)), (1, (0, x1)), (2, (0, x2))] [(0, bI (0 ≤ x1 ∧ x1 < 3))] (n, K, F, E) Q
  refine s_if_eq (q := 7) (tgt := 19) 2 rfl rfl (fun hb => ?_) (fun hb => ?_)
  · have hb := bI_f hb
    have b1 := hb
    replace h := h.1 hb
    refine s_iconst (q := 20) 9 rfl ?_
    exact s_iret 10 rfl rfl h
  · have hb := bI_t hb
    have b1 := hb
    replace h := h.2 hb
    refine s_iload_n (q := 8) 3 2 rfl rfl ?_
    refine s_i2l (q := 9) 4 rfl ?_
    refine s_lconst (q := 10) (x := 1) 5 rfl ?_
    refine s_ldc2 (q := 13) (x := 9) 6 rfl kX12_205 ?_
    refine n_callS (N := mX12_in) (as := [(1, x2), (1, 1), (1, 9)]) (st := []) (q := 16) (d' := 0) 7 rfl uX12_in kX12_197 rfl (pX12_in ?_)
    show PW l G 2 mX12_windowNow bg 16 [(0, (2, x0)), (1, (0, x1)), (2, (0, x2))] [(0, bI (1 ≤ x2 ∧ x2 ≤ 9))] (n, K, F, E) Q
    refine s_if_ne (q := 19) (tgt := 21) 8 rfl rfl (fun hb => ?_) (fun hb => ?_)
    · have hb := bI_t hb
      have b2 := hb
      replace h := h.1 hb
      refine s_aload_n (q := 22) 11 0 rfl rfl ?_
      obtain ⟨c3, h⟩ := h
      refine n_getf (q := 25) (jj := 3) 12 12 3 rfl kX12_13 c3 ?_
      refine s_bipush (q := 27) 13 rfl ?_
      refine s_iload_n (q := 28) 14 1 rfl rfl ?_
      obtain ⟨c4, h⟩ := h
      refine n_iadd (q := 29) 15 rfl c4 ?_
      obtain ⟨c5, h⟩ := h
      obtain ⟨c6, h⟩ := h
      refine n_iald (q := 30) 16 rfl c5 c6 ?_
      refine s_iload_n (q := 31) 17 2 rfl rfl ?_
      refine s_icmp_ne (q := 34) (tgt := 37) 18 rfl rfl (fun hb => ?_) (fun hb => ?_)
      · skip
        have b7 := hb
        replace h := h.1 hb
        refine s_aload_n (q := 38) 21 0 rfl rfl ?_
        refine s_iconst (q := 39) 22 rfl ?_
        refine PW.pick [0, 1, 2] rfl ?_
        exact n_callV (N := mX12_remember) (as := [(0, 3)]) (st := []) (q := 42) (d' := 1) 23 rfl uX12_remember kX12_207 rfl c3 h
      · have hb := Classical.not_not.mp hb
        have b7 := hb
        replace h := h.2 hb
        refine s_bipush (q := 36) 19 rfl ?_
        exact s_iret 20 rfl rfl h
    · have hb := bI_f2 hb
      have b2 := hb
      replace h := h.2 hb
      refine s_iconst (q := 20) 9 rfl ?_
      exact s_iret 10 rfl rfl h
theorem vX12_windowNow_42 {l : Launch} {G : pG} {bg : Nat × Nat} {n : Nat} {K : Int → Nat × Nat} {F E : Int → Int → Int} {Q : Option pV → pM → Prop} (x0 x1 x2 : Int) (h : (K x0).1 = 12 ∧ (-2147483648 ≤ 9 + x1 ∧ 9 + x1 < 2147483648) ∧ (0 : Int) ≤ F x0 3 ∧ (K (F x0 3)).1 = 20 ∧ ((0 : Int) ≤ 9 + x1 ∧ 9 + x1 < ((K (F x0 3)).2 : Int)) ∧ (∀ E1, E1 = pUp E (F x0 3) (9 + x1) x2 → (-2147483648 ≤ 15 + x1 ∧ 15 + x1 < 2147483648) ∧ ((0 : Int) ≤ 15 + x1 ∧ 15 + x1 < ((K (F x0 3)).2 : Int)) ∧ ((E1 (F x0 3) (15 + x1) ≤ x2 → PC l G 1 mX12_dropEldest (0, 0) [(2, x0), (0, x1), (0, 0)] (n, K, F, E1) (fun r μ => PW l G 2 mX12_windowNow bg 87 [(3, (0, 0))] (r.toList ++ []) μ Q)) ∧ (¬ (E1 (F x0 3) (15 + x1) ≤ x2) → (-2147483648 ≤ (E1 (F x0 3) (15 + x1)) - x2 ∧ (E1 (F x0 3) (15 + x1)) - x2 < 2147483648) ∧ PC l G 1 mX12_dropEldest (0, 0) [(2, x0), (0, x1), (0, (E1 (F x0 3) (15 + x1)) - x2)] (n, K, F, E1) (fun r μ => PW l G 2 mX12_windowNow bg 87 [(3, (0, (E1 (F x0 3) (15 + x1)) - x2))] (r.toList ++ []) μ Q))))) : PW l G 2 mX12_windowNow bg 42 [(0, (2, x0)), (1, (0, x1)), (2, (0, x2))] [] (n, K, F, E) Q := by
  refine s_aload_n (q := 43) 24 0 rfl rfl ?_
  obtain ⟨c1, h⟩ := h
  refine n_getf (q := 46) (jj := 3) 25 12 3 rfl kX12_13 c1 ?_
  refine s_bipush (q := 48) 26 rfl ?_
  refine s_iload_n (q := 49) 27 1 rfl rfl ?_
  obtain ⟨c2, h⟩ := h
  refine n_iadd (q := 50) 28 rfl c2 ?_
  refine s_iload_n (q := 51) 29 2 rfl rfl ?_
  obtain ⟨c3, h⟩ := h
  obtain ⟨c4, h⟩ := h
  obtain ⟨c5, h⟩ := h
  refine n_iast (q := 52) 30 rfl c3 c4 c5 ?_
  refine PW.nameE (fun E1 eE1 => ?_)
  replace h := h E1 eE1
  refine s_aload_n (q := 53) 31 0 rfl rfl ?_
  refine n_getf (q := 56) (jj := 3) 32 12 3 rfl kX12_13 c1 ?_
  refine s_bipush (q := 58) 33 rfl ?_
  refine s_iload_n (q := 59) 34 1 rfl rfl ?_
  obtain ⟨c6, h⟩ := h
  refine n_iadd (q := 60) 35 rfl c6 ?_
  obtain ⟨c7, h⟩ := h
  refine n_iald (q := 61) 36 rfl c4 c7 ?_
  refine s_iload_n (q := 62) 37 2 rfl rfl ?_
  refine s_icmp_le (q := 65) (tgt := 79) 38 rfl rfl (fun hb => ?_) (fun hb => ?_)
  · skip
    have b8 := hb
    replace h := h.1 hb
    refine s_iconst (q := 80) 48 rfl ?_
    refine s_istore_n (q := 81) (lv' := [(3, (0, 0)), (0, (2, x0)), (1, (0, x1)), (2, (0, x2))]) 49 rfl rfl ?_
    refine s_aload_n (q := 82) 50 1 rfl rfl ?_
    refine s_iload_n (q := 83) 51 2 rfl rfl ?_
    refine s_iload_n (q := 84) 52 0 rfl rfl ?_
    refine PW.pick [0] rfl ?_
    exact n_callV (N := mX12_dropEldest) (as := [(0, x1), (0, 0)]) (st := []) (q := 87) (d' := 1) 53 rfl uX12_dropEldest kX12_527 rfl c1 h
  · skip
    have b8 := hb
    replace h := h.2 hb
    refine s_aload_n (q := 66) 39 0 rfl rfl ?_
    refine n_getf (q := 69) (jj := 3) 40 12 3 rfl kX12_13 c1 ?_
    refine s_bipush (q := 71) 41 rfl ?_
    refine s_iload_n (q := 72) 42 1 rfl rfl ?_
    refine n_iadd (q := 73) 43 rfl c6 ?_
    refine n_iald (q := 74) 44 rfl c4 c7 ?_
    refine s_iload_n (q := 75) 45 2 rfl rfl ?_
    obtain ⟨c9, h⟩ := h
    refine n_isub (q := 76) 46 rfl c9 ?_
    refine s_goto (tgt := 80) 47 rfl rfl ?_
    refine s_istore_n (q := 81) (lv' := [(3, (0, (E1 (F x0 3) (15 + x1)) - x2)), (0, (2, x0)), (1, (0, x1)), (2, (0, x2))]) 49 rfl rfl ?_
    refine s_aload_n (q := 82) 50 1 rfl rfl ?_
    refine s_iload_n (q := 83) 51 2 rfl rfl ?_
    refine s_iload_n (q := 84) 52 0 rfl rfl ?_
    refine PW.pick [0] rfl ?_
    exact n_callV (N := mX12_dropEldest) (as := [(0, x1), (0, (E1 (F x0 3) (15 + x1)) - x2)]) (st := []) (q := 87) (d' := 1) 53 rfl uX12_dropEldest kX12_527 rfl c1 h
theorem vX12_windowNow_87 {l : Launch} {G : pG} {bg : Nat × Nat} {n : Nat} {K : Int → Nat × Nat} {F E : Int → Int → Int} {Q : Option pV → pM → Prop} (x3 : Int) (h : Q (some (0, x3)) (n, K, F, E)) : PW l G 2 mX12_windowNow bg 87 [(3, (0, x3))] [] (n, K, F, E) Q := by
  refine s_iload_n (q := 88) 54 0 rfl rfl ?_
  exact s_iret 55 rfl rfl h
theorem vX12_window_0 {l : Launch} {G : pG} {bg : Nat × Nat} {n : Nat} {K : Int → Nat × Nat} {F E : Int → Int → Int} {Q : Option pV → pM → Prop} (x0 x1 x2 : Int) (h : (K x0).1 = 12 ∧ (∀ F1, F1 = pUp F x0 0 0 → PC l G 2 mX12_windowNow (0, 0) [(2, x0), (0, x1), (0, x2)] (n, K, F1, E) (fun r μ => PW l G 3 mX12_window bg 12 [] (r.toList ++ [(2, x0)]) μ Q))) : PW l G 3 mX12_window bg 0 [(0, (2, x0)), (1, (0, x1)), (2, (0, x2))] [] (n, K, F, E) Q := by
  refine s_aload_n (q := 1) 0 0 rfl rfl ?_
  refine s_iconst (q := 2) 1 rfl ?_
  obtain ⟨c1, h⟩ := h
  refine n_putf (q := 5) (jj := 0) 2 12 0 rfl kX12_174 c1 (Or.inl rfl) ?_
  refine PW.nameF (fun F1 eF1 => ?_)
  replace h := h F1 eF1
  refine s_aload_n (q := 6) 3 0 rfl rfl ?_
  refine s_aload_n (q := 7) 4 0 rfl rfl ?_
  refine s_iload_n (q := 8) 5 1 rfl rfl ?_
  refine s_iload_n (q := 9) 6 2 rfl rfl ?_
  refine PW.pick [] rfl ?_
  exact n_callV (N := mX12_windowNow) (as := [(0, x1), (0, x2)]) (st := [(2, x0)]) (q := 12) (d' := 2) 7 rfl uX12_windowNow kX12_542 rfl c1 h
theorem vX12_window_12 {l : Launch} {G : pG} {bg : Nat × Nat} {n : Nat} {K : Int → Nat × Nat} {F E : Int → Int → Int} {Q : Option pV → pM → Prop} (s0 s1 : Int) (h : (K s1).1 = 12 ∧ PC l G 0 mX12_tell (0, 0) [(2, s1), (0, s0)] (n, K, F, E) (fun r μ => PW l G 3 mX12_window bg 15 [] (r.toList ++ []) μ Q)) : PW l G 3 mX12_window bg 12 [] [(0, s0), (2, s1)] (n, K, F, E) Q := by
  obtain ⟨c1, h⟩ := h
  refine PW.pick [] rfl ?_
  exact n_callV (N := mX12_tell) (as := [(0, s0)]) (st := []) (q := 15) (d' := 0) 8 rfl uX12_tell kX12_190 rfl c1 h
theorem vX12_window_15 {l : Launch} {G : pG} {bg : Nat × Nat} {n : Nat} {K : Int → Nat × Nat} {F E : Int → Int → Int} {Q : Option pV → pM → Prop} (s0 : Int) (h : Q (some (0, s0)) (n, K, F, E)) : PW l G 3 mX12_window bg 15 [] [(0, s0)] (n, K, F, E) Q := by
  exact s_iret 9 rfl rfl h
