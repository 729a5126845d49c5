theorem vX12_days_0 {l : Launch} {G : pG} {bg : Nat × Nat} {n : Nat} {K : Int → Nat × Nat} {F E : Int → Int → Int} {Q : Option pV → pM → Prop} (x0 x1 x2 : Int) (h : (K x0).1 = 12 ∧ (∀ F1, F1 = pUp F x0 0 0 → ((¬ (0 ≤ x1 ∧ x1 ≤ 1000000) → PC l G 0 mX12_tell (0, 0) [(2, x0), (0, (-1))] (n, K, F1, E) (fun r μ => PW l G 8 mX12_days bg 34 [] (r.toList ++ []) μ Q)) ∧ (0 ≤ x1 ∧ x1 ≤ 1000000 → ((1 ≤ x2 ∧ x2 ≤ 60 → PC l G 1 mX12_keepOrders (0, 0) [(2, x0)] (n, K, F1, E) (fun r μ => PW l G 8 mX12_days bg 39 [(0, (2, x0)), (1, (0, x1)), (2, (0, x2))] (r.toList ++ []) μ Q)) ∧ (¬ (1 ≤ x2 ∧ x2 ≤ 60) → PC l G 0 mX12_tell (0, 0) [(2, x0), (0, (-1))] (n, K, F1, E) (fun r μ => PW l G 8 mX12_days bg 34 [] (r.toList ++ []) μ Q))))))) : PW l G 8 mX12_days bg 0 [(0, (2, x0)), (1, (0, x1)), (2, (0, x2))] [] (n, K, F, E) Q := by
  refine s_aload_n (q := 1) 0 0 rfl rfl ?_
  refine s_iconst (q := 2) 1 rfl ?_
  obtain ⟨c1, h⟩ := h
  refine n_putf (q := 5) (jj := 0) 2 12 0 rfl kX12_174 c1 (Or.inl rfl) ?_
  refine PW.nameF (fun F1 eF1 => ?_)
  replace h := h F1 eF1
  refine s_iload_n (q := 6) 3 1 rfl rfl ?_
  refine s_i2l (q := 7) 4 rfl ?_
  refine s_lconst (q := 8) (x := 0) 5 rfl ?_
  refine s_ldc2 (q := 11) (x := 1000000) 6 rfl kX12_281 ?_
  refine n_callS (N := mX12_in) (as := [(1, x1), (1, 0), (1, 1000000)]) (st := []) (q := 14) (d' := 0) 7 rfl uX12_in kX12_197 rfl (pX12_in ?_)
  show PW l G 8 mX12_days bg 14 [(0, (2, x0)), (1, (0, x1)), (2, (0, x2))] [(0, bI (0 ≤ x1 ∧ x1 ≤ 1000000))] (n, K, F1, E) Q
  refine s_if_eq (q := 17) (tgt := 29) 8 rfl rfl (fun hb => ?_) (fun hb => ?_)
  · have hb := bI_f hb
    have b2 := hb
    replace h := h.1 hb
    refine s_aload_n (q := 30) 15 0 rfl rfl ?_
    refine s_iconst (q := 31) 16 rfl ?_
    refine PW.pick [] rfl ?_
    exact n_callV (N := mX12_tell) (as := [(0, (-1))]) (st := []) (q := 34) (d' := 0) 17 rfl uX12_tell kX12_190 rfl c1 h
  · have hb := bI_t hb
    have b2 := hb
    replace h := h.2 hb
    refine s_iload_n (q := 18) 9 2 rfl rfl ?_
    refine s_i2l (q := 19) 10 rfl ?_
    refine s_lconst (q := 20) (x := 1) 11 rfl ?_
    refine s_ldc2 (q := 23) (x := 60) 12 rfl kX12_623 ?_
    refine n_callS (N := mX12_in) (as := [(1, x2), (1, 1), (1, 60)]) (st := []) (q := 26) (d' := 0) 13 rfl uX12_in kX12_197 rfl (pX12_in ?_)
    show PW l G 8 mX12_days bg 26 [(0, (2, x0)), (1, (0, x1)), (2, (0, x2))] [(0, bI (1 ≤ x2 ∧ x2 ≤ 60))] (n, K, F1, E) Q
    refine s_if_ne (q := 29) (tgt := 35) 14 rfl rfl (fun hb => ?_) (fun hb => ?_)
    · have hb := bI_t hb
      have b3 := hb
      replace h := h.1 hb
      refine s_aload_n (q := 36) 19 0 rfl rfl ?_
      refine PW.pick [0, 1, 2] rfl ?_
      exact n_callV (N := mX12_keepOrders) (as := []) (st := []) (q := 39) (d' := 1) 20 rfl uX12_keepOrders kX12_605 rfl c1 h
    · have hb := bI_f2 hb
      have b3 := hb
      replace h := h.2 hb
      refine s_aload_n (q := 30) 15 0 rfl rfl ?_
      refine s_iconst (q := 31) 16 rfl ?_
      refine PW.pick [] rfl ?_
      exact n_callV (N := mX12_tell) (as := [(0, (-1))]) (st := []) (q := 34) (d' := 0) 17 rfl uX12_tell kX12_190 rfl c1 h
theorem vX12_days_34 {l : Launch} {G : pG} {bg : Nat × Nat} {n : Nat} {K : Int → Nat × Nat} {F E : Int → Int → Int} {Q : Option pV → pM → Prop} (s0 : Int) (h : Q (some (0, s0)) (n, K, F, E)) : PW l G 8 mX12_days bg 34 [] [(0, s0)] (n, K, F, E) Q := by
  exact s_iret 18 rfl rfl h
theorem vX12_days_39 {l : Launch} {G : pG} {bg : Nat × Nat} {n : Nat} {K : Int → Nat × Nat} {F E : Int → Int → Int} {Q : Option pV → pM → Prop} (x0 x1 x2 s0 : Int) (h : (K x0).1 = 12 ∧ (K (F x0 3)).1 = 20 ∧ ((0 : Int) ≤ 8 ∧ 8 < ((K (F x0 3)).2 : Int)) ∧ (∀ F1, F1 = pUp F x0 72 x1 → PW l G 8 mX12_days bg 58 [(0, (2, x0)), (2, (0, x2)), (3, (0, s0)), (4, (0, E (F x0 3) 8)), (5, (0, 0))] [] (n, K, F1, E) Q)) : PW l G 8 mX12_days bg 39 [(0, (2, x0)), (1, (0, x1)), (2, (0, x2))] [(0, s0)] (n, K, F, E) Q := by
  refine s_istore_n (q := 40) (lv' := [(3, (0, s0)), (0, (2, x0)), (1, (0, x1)), (2, (0, x2))]) 21 rfl rfl ?_
  refine s_aload_n (q := 41) 22 1 rfl rfl ?_
  obtain ⟨c1, h⟩ := h
  refine n_getf (q := 44) (jj := 3) 23 12 3 rfl kX12_13 c1 ?_
  refine s_bipush (q := 46) 24 rfl ?_
  obtain ⟨c2, h⟩ := h
  obtain ⟨c3, h⟩ := h
  refine n_iald (q := 47) 25 rfl c2 c3 ?_
  refine s_istore (q := 49) (lv' := [(4, (0, E (F x0 3) 8)), (3, (0, s0)), (0, (2, x0)), (1, (0, x1)), (2, (0, x2))]) 26 rfl rfl ?_
  refine s_aload_n (q := 50) 27 2 rfl rfl ?_
  refine s_iload_n (q := 51) 28 3 rfl rfl ?_
  refine s_i2l (q := 52) 29 rfl ?_
  refine n_putf (q := 55) (jj := 72) 30 12 72 rfl kX12_614 c1 (Or.inr (Or.inl rfl)) ?_
  refine PW.nameF (fun F1 eF1 => ?_)
  replace h := h F1 eF1
  refine s_iconst (q := 56) 31 rfl ?_
  refine s_istore (q := 58) (lv' := [(5, (0, 0)), (4, (0, E (F x0 3) 8)), (3, (0, s0)), (0, (2, x0)), (1, (0, x1)), (2, (0, x2))]) 32 rfl rfl ?_
  refine PW.pick [3, 5, 2, 1, 0] rfl ?_
  exact h
theorem vX12_days_58 {l : Launch} {G : pG} {bg : Nat × Nat} {n : Nat} {K : Int → Nat × Nat} {F E : Int → Int → Int} {Q : Option pV → pM → Prop} (x0 x2 x3 x4 x5 : Int) (h : ((x2 ≤ x5 → (K x0).1 = 12 ∧ (K (F x0 3)).1 = 20 ∧ ((0 : Int) ≤ 8 ∧ 8 < ((K (F x0 3)).2 : Int)) ∧ PW l G 8 mX12_days bg 146 [(0, (2, x0)), (3, (0, x3)), (5, (0, w32 ((E (F x0 3) 8) - x4))), (6, (0, 0))] [] (n, K, F, E) Q) ∧ (¬ (x2 ≤ x5) → (K x0).1 = 12 ∧ (-9223372036854775808 ≤ (w64 ((F x0 72) * 1103)) + 12345 ∧ (w64 ((F x0 72) * 1103)) + 12345 < 9223372036854775808) ∧ (∀ a1, a1 = ((w64 ((F x0 72) * 1103)) + 12345).tmod 1000003 → (∀ F2, F2 = pUp F x0 72 a1 → (-2147483648 ≤ a1.tmod 3 ∧ a1.tmod 3 < 2147483648) ∧ (-9223372036854775808 ≤ (w64 (a1 * 1103)) + 12345 ∧ (w64 (a1 * 1103)) + 12345 < 9223372036854775808) ∧ (∀ F3, F3 = pUp F2 x0 72 (((w64 (a1 * 1103)) + 12345).tmod 1000003) → (∀ a4, a4 = (((w64 (a1 * 1103)) + 12345).tmod 1000003).tmod 4 → (-2147483648 ≤ a4 ∧ a4 < 2147483648) ∧ (∀ a5, a5 = w64 ((((w64 (a1 * 1103)) + 12345).tmod 1000003) * 1103) → (-9223372036854775808 ≤ a5 + 12345 ∧ a5 + 12345 < 9223372036854775808) ∧ (∀ F6, F6 = pUp F3 x0 72 ((a5 + 12345).tmod 1000003) → (-2147483648 ≤ ((a5 + 12345).tmod 1000003).tmod 4 ∧ ((a5 + 12345).tmod 1000003).tmod 4 < 2147483648) ∧ (-9223372036854775808 ≤ (w64 (((a5 + 12345).tmod 1000003) * 1103)) + 12345 ∧ (w64 (((a5 + 12345).tmod 1000003) * 1103)) + 12345 < 9223372036854775808) ∧ (∀ a7, a7 = (w64 (((a5 + 12345).tmod 1000003) * 1103)) + 12345 → (∀ F8, F8 = pUp F6 x0 72 (a7.tmod 1000003) → (-2147483648 ≤ (a7.tmod 1000003).tmod 8 ∧ (a7.tmod 1000003).tmod 8 < 2147483648) ∧ ((7 ≤ (a7.tmod 1000003).tmod 8 → (-2147483648 ≤ a4 + 2 ∧ a4 + 2 < 2147483648) ∧ PC l G 2 mX12_windowNow (0, 0) [(2, x0), (0, a1.tmod 3), (0, a4 + 2)] (n, K, F8, E) (fun r μ => PW l G 8 mX12_days bg 124 [(0, (2, x0)), (2, (0, x2)), (3, (0, x3)), (4, (0, x4)), (5, (0, x5))] (r.toList ++ []) μ Q)) ∧ (¬ (7 ≤ (a7.tmod 1000003).tmod 8) → PC l G 7 mX12_comeNow (0, 0) [(2, x0), (0, a1.tmod 3), (0, a4), (0, ((a5 + 12345).tmod 1000003).tmod 4)] (n, K, F8, E) (fun r μ => PW l G 8 mX12_days bg 110 [(0, (2, x0)), (2, (0, x2)), (3, (0, x3)), (4, (0, x4)), (5, (0, x5))] (r.toList ++ []) μ Q)))))))))))))) : PW l G 8 mX12_days bg 58 [(0, (2, x0)), (2, (0, x2)), (3, (0, x3)), (4, (0, x4)), (5, (0, x5))] [] (n, K, F, E) Q := by
  refine s_iload (q := 60) 33 4 rfl rfl ?_
  refine s_iload_n (q := 61) 34 1 rfl rfl ?_
  refine s_icmp_ge (q := 64) (tgt := 131) 35 rfl rfl (fun hb => ?_) (fun hb => ?_)
  · skip
    have b1 := hb
    replace h := h.1 hb
    refine s_aload_n (q := 132) 71 0 rfl rfl ?_
    obtain ⟨c2, h⟩ := h
    refine n_getf (q := 135) (jj := 3) 72 12 3 rfl kX12_13 c2 ?_
    refine s_bipush (q := 137) 73 rfl ?_
    obtain ⟨c3, h⟩ := h
    obtain ⟨c4, h⟩ := h
    refine n_iald (q := 138) 74 rfl c3 c4 ?_
    refine s_iload (q := 140) 75 3 rfl rfl ?_
    refine s_isub (q := 141) 76 rfl ?_
    refine s_istore (q := 143) (lv' := [(5, (0, w32 ((E (F x0 3) 8) - x4))), (0, (2, x0)), (2, (0, x2)), (3, (0, x3)), (4, (0, x4))]) 77 rfl rfl ?_
    refine s_iconst (q := 144) 78 rfl ?_
    refine s_istore (q := 146) (lv' := [(6, (0, 0)), (5, (0, w32 ((E (F x0 3) 8) - x4))), (0, (2, x0)), (2, (0, x2)), (3, (0, x3)), (4, (0, x4))]) 79 rfl rfl ?_
    refine PW.pick [2, 4, 1, 0] rfl ?_
    exact h
  · skip
    have b1 := hb
    replace h := h.2 hb
    refine s_aload_n (q := 65) 36 0 rfl rfl ?_
    refine s_iconst (q := 66) 37 rfl ?_
    obtain ⟨c5, h⟩ := h
    refine n_callV (N := mX12_draw) (as := [(0, 3)]) (st := []) (q := 69) (d' := 0) 38 rfl uX12_draw kX12_625 rfl c5 ?_
    show PW l G 0 mX12_draw (0, 0) 0 [(0, (2, x0)), (1, (0, 3))] [] (n, K, F, E) _
    refine s_aload_n (q := 1) 0 0 rfl rfl ?_
    refine s_aload_n (q := 2) 1 0 rfl rfl ?_
    refine n_getf (q := 5) (jj := 72) 2 12 72 rfl kX12_614 c5 ?_
    refine s_ldc2 (q := 8) (x := 1103) 3 rfl kX12_617 ?_
    refine s_lmul (q := 9) 4 rfl ?_
    refine s_ldc2 (q := 12) (x := 12345) 5 rfl kX12_619 ?_
    obtain ⟨c6, h⟩ := h
    refine n_ladd (q := 13) 6 rfl c6 ?_
    refine s_ldc2 (q := 16) (x := 1000003) 7 rfl kX12_621 ?_
    refine s_lrem (q := 17) 8 rfl (by decide) ?_
    refine PW.name (fun a1 ea1 => ?_)
    replace h := h a1 ea1
    refine n_putf (q := 20) (jj := 72) 9 12 72 rfl kX12_614 c5 (Or.inr (Or.inl rfl)) ?_
    refine PW.nameF (fun F2 eF2 => ?_)
    replace h := h F2 eF2
    refine s_aload_n (q := 21) 10 0 rfl rfl ?_
    refine n_getf (q := 24) (jj := 72) 11 12 72 rfl kX12_614 c5 ?_
    refine PW.top (b := a1) (by exact (congrFun (congrFun eF2 _) _).trans pUp_s) ?_
    refine s_iload_n (q := 25) 12 1 rfl rfl ?_
    refine s_i2l (q := 26) 13 rfl ?_
    refine s_lrem (q := 27) 14 rfl (by decide) ?_
    obtain ⟨c7, h⟩ := h
    refine n_l2i (q := 28) 15 rfl c7 ?_
    refine s_iret 16 rfl rfl ?_
    show PW l G 8 mX12_days bg 69 [(0, (2, x0)), (2, (0, x2)), (3, (0, x3)), (4, (0, x4)), (5, (0, x5))] [(0, a1.tmod 3)] (n, K, F2, E) Q
    refine s_istore (q := 71) (lv' := [(6, (0, a1.tmod 3)), (0, (2, x0)), (2, (0, x2)), (3, (0, x3)), (4, (0, x4)), (5, (0, x5))]) 39 rfl rfl ?_
    refine s_aload_n (q := 72) 40 1 rfl rfl ?_
    refine s_iconst (q := 73) 41 rfl ?_
    refine n_callV (N := mX12_draw) (as := [(0, 4)]) (st := []) (q := 76) (d' := 0) 42 rfl uX12_draw kX12_625 rfl c5 ?_
    show PW l G 0 mX12_draw (0, 0) 0 [(0, (2, x0)), (1, (0, 4))] [] (n, K, F2, E) _
    refine s_aload_n (q := 1) 0 0 rfl rfl ?_
    refine s_aload_n (q := 2) 1 0 rfl rfl ?_
    refine n_getf (q := 5) (jj := 72) 2 12 72 rfl kX12_614 c5 ?_
    refine PW.top (b := a1) (by exact (congrFun (congrFun eF2 _) _).trans pUp_s) ?_
    refine s_ldc2 (q := 8) (x := 1103) 3 rfl kX12_617 ?_
    refine s_lmul (q := 9) 4 rfl ?_
    refine s_ldc2 (q := 12) (x := 12345) 5 rfl kX12_619 ?_
    obtain ⟨c8, h⟩ := h
    refine n_ladd (q := 13) 6 rfl c8 ?_
    refine s_ldc2 (q := 16) (x := 1000003) 7 rfl kX12_621 ?_
    refine s_lrem (q := 17) 8 rfl (by decide) ?_
    refine n_putf (q := 20) (jj := 72) 9 12 72 rfl kX12_614 c5 (Or.inr (Or.inl rfl)) ?_
    refine PW.nameF (fun F3 eF3 => ?_)
    replace h := h F3 eF3
    refine s_aload_n (q := 21) 10 0 rfl rfl ?_
    refine n_getf (q := 24) (jj := 72) 11 12 72 rfl kX12_614 c5 ?_
    refine PW.top (b := ((w64 (a1 * 1103)) + 12345).tmod 1000003) (by exact (congrFun (congrFun eF3 _) _).trans pUp_s) ?_
    refine s_iload_n (q := 25) 12 1 rfl rfl ?_
    refine s_i2l (q := 26) 13 rfl ?_
    refine s_lrem (q := 27) 14 rfl (by decide) ?_
    refine PW.name (fun a4 ea4 => ?_)
    replace h := h a4 ea4
    obtain ⟨c9, h⟩ := h
    refine n_l2i (q := 28) 15 rfl c9 ?_
    refine s_iret 16 rfl rfl ?_
    show PW l G 8 mX12_days bg 76 [(6, (0, a1.tmod 3)), (0, (2, x0)), (2, (0, x2)), (3, (0, x3)), (4, (0, x4)), (5, (0, x5))] [(0, a4)] (n, K, F3, E) Q
    refine s_istore (q := 78) (lv' := [(7, (0, a4)), (6, (0, a1.tmod 3)), (0, (2, x0)), (2, (0, x2)), (3, (0, x3)), (4, (0, x4)), (5, (0, x5))]) 43 rfl rfl ?_
    refine s_aload_n (q := 79) 44 2 rfl rfl ?_
    refine s_iconst (q := 80) 45 rfl ?_
    refine n_callV (N := mX12_draw) (as := [(0, 4)]) (st := []) (q := 83) (d' := 0) 46 rfl uX12_draw kX12_625 rfl c5 ?_
    show PW l G 0 mX12_draw (0, 0) 0 [(0, (2, x0)), (1, (0, 4))] [] (n, K, F3, E) _
    refine s_aload_n (q := 1) 0 0 rfl rfl ?_
    refine s_aload_n (q := 2) 1 0 rfl rfl ?_
    refine n_getf (q := 5) (jj := 72) 2 12 72 rfl kX12_614 c5 ?_
    refine PW.top (b := ((w64 (a1 * 1103)) + 12345).tmod 1000003) (by exact (congrFun (congrFun eF3 _) _).trans pUp_s) ?_
    refine s_ldc2 (q := 8) (x := 1103) 3 rfl kX12_617 ?_
    refine s_lmul (q := 9) 4 rfl ?_
    refine PW.name (fun a5 ea5 => ?_)
    replace h := h a5 ea5
    refine s_ldc2 (q := 12) (x := 12345) 5 rfl kX12_619 ?_
    obtain ⟨c10, h⟩ := h
    refine n_ladd (q := 13) 6 rfl c10 ?_
    refine s_ldc2 (q := 16) (x := 1000003) 7 rfl kX12_621 ?_
    refine s_lrem (q := 17) 8 rfl (by decide) ?_
    refine n_putf (q := 20) (jj := 72) 9 12 72 rfl kX12_614 c5 (Or.inr (Or.inl rfl)) ?_
    refine PW.nameF (fun F6 eF6 => ?_)
    replace h := h F6 eF6
    refine s_aload_n (q := 21) 10 0 rfl rfl ?_
    refine n_getf (q := 24) (jj := 72) 11 12 72 rfl kX12_614 c5 ?_
    refine PW.top (b := (a5 + 12345).tmod 1000003) (by exact (congrFun (congrFun eF6 _) _).trans pUp_s) ?_
    refine s_iload_n (q := 25) 12 1 rfl rfl ?_
    refine s_i2l (q := 26) 13 rfl ?_
    refine s_lrem (q := 27) 14 rfl (by decide) ?_
    obtain ⟨c11, h⟩ := h
    refine n_l2i (q := 28) 15 rfl c11 ?_
    refine s_iret 16 rfl rfl ?_
    show PW l G 8 mX12_days bg 83 [(7, (0, a4)), (6, (0, a1.tmod 3)), (0, (2, x0)), (2, (0, x2)), (3, (0, x3)), (4, (0, x4)), (5, (0, x5))] [(0, ((a5 + 12345).tmod 1000003).tmod 4)] (n, K, F6, E) Q
    refine s_istore (q := 85) (lv' := [(8, (0, ((a5 + 12345).tmod 1000003).tmod 4)), (7, (0, a4)), (6, (0, a1.tmod 3)), (0, (2, x0)), (2, (0, x2)), (3, (0, x3)), (4, (0, x4)), (5, (0, x5))]) 47 rfl rfl ?_
    refine s_aload_n (q := 86) 48 3 rfl rfl ?_
    refine s_bipush (q := 88) 49 rfl ?_
    refine n_callV (N := mX12_draw) (as := [(0, 8)]) (st := []) (q := 91) (d' := 0) 50 rfl uX12_draw kX12_625 rfl c5 ?_
    show PW l G 0 mX12_draw (0, 0) 0 [(0, (2, x0)), (1, (0, 8))] [] (n, K, F6, E) _
    refine s_aload_n (q := 1) 0 0 rfl rfl ?_
    refine s_aload_n (q := 2) 1 0 rfl rfl ?_
    refine n_getf (q := 5) (jj := 72) 2 12 72 rfl kX12_614 c5 ?_
    refine PW.top (b := (a5 + 12345).tmod 1000003) (by exact (congrFun (congrFun eF6 _) _).trans pUp_s) ?_
    refine s_ldc2 (q := 8) (x := 1103) 3 rfl kX12_617 ?_
    refine s_lmul (q := 9) 4 rfl ?_
    refine s_ldc2 (q := 12) (x := 12345) 5 rfl kX12_619 ?_
    obtain ⟨c12, h⟩ := h
    refine n_ladd (q := 13) 6 rfl c12 ?_
    refine PW.name (fun a7 ea7 => ?_)
    replace h := h a7 ea7
    refine s_ldc2 (q := 16) (x := 1000003) 7 rfl kX12_621 ?_
    refine s_lrem (q := 17) 8 rfl (by decide) ?_
    refine n_putf (q := 20) (jj := 72) 9 12 72 rfl kX12_614 c5 (Or.inr (Or.inl rfl)) ?_
    refine PW.nameF (fun F8 eF8 => ?_)
    replace h := h F8 eF8
    refine s_aload_n (q := 21) 10 0 rfl rfl ?_
    refine n_getf (q := 24) (jj := 72) 11 12 72 rfl kX12_614 c5 ?_
    refine PW.top (b := a7.tmod 1000003) (by exact (congrFun (congrFun eF8 _) _).trans pUp_s) ?_
    refine s_iload_n (q := 25) 12 1 rfl rfl ?_
    refine s_i2l (q := 26) 13 rfl ?_
    refine s_lrem (q := 27) 14 rfl (by decide) ?_
    obtain ⟨c13, h⟩ := h
    refine n_l2i (q := 28) 15 rfl c13 ?_
    refine s_iret 16 rfl rfl ?_
    show PW l G 8 mX12_days bg 91 [(8, (0, ((a5 + 12345).tmod 1000003).tmod 4)), (7, (0, a4)), (6, (0, a1.tmod 3)), (0, (2, x0)), (2, (0, x2)), (3, (0, x3)), (4, (0, x4)), (5, (0, x5))] [(0, (a7.tmod 1000003).tmod 8)] (n, K, F8, E) Q
    refine s_istore (q := 93) (lv' := [(9, (0, (a7.tmod 1000003).tmod 8)), (8, (0, ((a5 + 12345).tmod 1000003).tmod 4)), (7, (0, a4)), (6, (0, a1.tmod 3)), (0, (2, x0)), (2, (0, x2)), (3, (0, x3)), (4, (0, x4)), (5, (0, x5))]) 51 rfl rfl ?_
    refine s_iload (q := 95) 52 0 rfl rfl ?_
    refine s_bipush (q := 97) 53 rfl ?_
    refine s_icmp_ge (q := 100) (tgt := 114) 54 rfl rfl (fun hb => ?_) (fun hb => ?_)
    · skip
      have b14 := hb
      replace h := h.1 hb
      refine s_aload_n (q := 115) 62 4 rfl rfl ?_
      refine s_iload (q := 117) 63 3 rfl rfl ?_
      refine s_iload (q := 119) 64 2 rfl rfl ?_
      refine s_iconst (q := 120) 65 rfl ?_
      obtain ⟨c15, h⟩ := h
      refine n_iadd (q := 121) 66 rfl c15 ?_
      refine PW.pick [4, 5, 6, 7, 8] rfl ?_
      exact n_callV (N := mX12_windowNow) (as := [(0, a1.tmod 3), (0, a4 + 2)]) (st := []) (q := 124) (d' := 2) 67 rfl uX12_windowNow kX12_542 rfl c5 h
    · skip
      have b14 := hb
      replace h := h.2 hb
      refine s_aload_n (q := 101) 55 4 rfl rfl ?_
      refine s_iload (q := 103) 56 3 rfl rfl ?_
      refine s_iload (q := 105) 57 2 rfl rfl ?_
      refine s_iload (q := 107) 58 1 rfl rfl ?_
      refine PW.pick [4, 5, 6, 7, 8] rfl ?_
      exact n_callV (N := mX12_comeNow) (as := [(0, a1.tmod 3), (0, a4), (0, ((a5 + 12345).tmod 1000003).tmod 4)]) (st := []) (q := 110) (d' := 7) 59 rfl uX12_comeNow kX12_242 rfl c5 h
theorem vX12_days_110 {l : Launch} {G : pG} {bg : Nat × Nat} {n : Nat} {K : Int → Nat × Nat} {F E : Int → Int → Int} {Q : Option pV → pM → Prop} (x0 x2 x3 x4 x5 s0 : Int) (h : (-2147483648 ≤ x5 + 1 ∧ x5 + 1 < 2147483648) ∧ PW l G 8 mX12_days bg 58 [(0, (2, x0)), (2, (0, x2)), (3, (0, x3)), (4, (0, x4)), (5, (0, x5 + 1))] [] (n, K, F, E) Q) : PW l G 8 mX12_days bg 110 [(0, (2, x0)), (2, (0, x2)), (3, (0, x3)), (4, (0, x4)), (5, (0, x5))] [(0, s0)] (n, K, F, E) Q := by
  refine s_pop (q := 111) 60 rfl ?_
  refine s_goto (tgt := 125) 61 rfl rfl ?_
  obtain ⟨c1, h⟩ := h
  refine n_iinc (q := 128) (lv' := [(5, (0, x5 + 1)), (0, (2, x0)), (2, (0, x2)), (3, (0, x3)), (4, (0, x4))]) 69 4 rfl rfl c1 rfl ?_
  refine s_goto (tgt := 58) 70 rfl rfl ?_
  refine PW.pick [1, 2, 3, 4, 0] rfl ?_
  exact h
theorem vX12_days_124 {l : Launch} {G : pG} {bg : Nat × Nat} {n : Nat} {K : Int → Nat × Nat} {F E : Int → Int → Int} {Q : Option pV → pM → Prop} (x0 x2 x3 x4 x5 s0 : Int) (h : (-2147483648 ≤ x5 + 1 ∧ x5 + 1 < 2147483648) ∧ PW l G 8 mX12_days bg 58 [(0, (2, x0)), (2, (0, x2)), (3, (0, x3)), (4, (0, x4)), (5, (0, x5 + 1))] [] (n, K, F, E) Q) : PW l G 8 mX12_days bg 124 [(0, (2, x0)), (2, (0, x2)), (3, (0, x3)), (4, (0, x4)), (5, (0, x5))] [(0, s0)] (n, K, F, E) Q := by
  refine s_pop (q := 125) 68 rfl ?_
  obtain ⟨c1, h⟩ := h
  refine n_iinc (q := 128) (lv' := [(5, (0, x5 + 1)), (0, (2, x0)), (2, (0, x2)), (3, (0, x3)), (4, (0, x4))]) 69 4 rfl rfl c1 rfl ?_
  refine s_goto (tgt := 58) 70 rfl rfl ?_
  refine PW.pick [1, 2, 3, 4, 0] rfl ?_
  exact h
theorem vX12_days_146 {l : Launch} {G : pG} {bg : Nat × Nat} {n : Nat} {K : Int → Nat × Nat} {F E : Int → Int → Int} {Q : Option pV → pM → Prop} (x0 x3 x5 x6 : Int) (h : (K x0).1 = 12 ∧ (K (F x0 3)).1 = 20 ∧ ((0 : Int) ≤ 6 ∧ 6 < ((K (F x0 3)).2 : Int)) ∧ ((E (F x0 3) 6 ≤ x6 → PW l G 8 mX12_days bg 186 [(0, (2, x0)), (3, (0, x3)), (5, (0, x5)), (6, (0, 0))] [] (n, K, F, E) Q) ∧ (¬ (E (F x0 3) 6 ≤ x6) → (-2147483648 ≤ 6 * x6 ∧ 6 * x6 < 2147483648) ∧ (-2147483648 ≤ 18 + (6 * x6) ∧ 18 + (6 * x6) < 2147483648) ∧ (-2147483648 ≤ (18 + (6 * x6)) + 5 ∧ (18 + (6 * x6)) + 5 < 2147483648) ∧ ((0 : Int) ≤ (18 + (6 * x6)) + 5 ∧ (18 + (6 * x6)) + 5 < ((K (F x0 3)).2 : Int)) ∧ (0 : Int) ≤ F x0 73 ∧ (K (F x0 73)).1 = 20 ∧ ((0 : Int) ≤ x6 ∧ x6 < ((K (F x0 73)).2 : Int)) ∧ (∀ E1, E1 = pUp E (F x0 73) x6 (E (F x0 3) ((18 + (6 * x6)) + 5)) → (-2147483648 ≤ x6 + 1 ∧ x6 + 1 < 2147483648) ∧ PW l G 8 mX12_days bg 146 [(0, (2, x0)), (3, (0, x3)), (5, (0, x5)), (6, (0, x6 + 1))] [] (n, K, F, E1) Q)))) : PW l G 8 mX12_days bg 146 [(0, (2, x0)), (3, (0, x3)), (5, (0, x5)), (6, (0, x6))] [] (n, K, F, E) Q := by
  refine s_iload (q := 148) 80 3 rfl rfl ?_
  refine s_aload_n (q := 149) 81 0 rfl rfl ?_
  obtain ⟨c1, h⟩ := h
  refine n_getf (q := 152) (jj := 3) 82 12 3 rfl kX12_13 c1 ?_
  refine s_bipush (q := 154) 83 rfl ?_
  obtain ⟨c2, h⟩ := h
  obtain ⟨c3, h⟩ := h
  refine n_iald (q := 155) 84 rfl c2 c3 ?_
  refine s_icmp_ge (q := 158) (tgt := 183) 85 rfl rfl (fun hb => ?_) (fun hb => ?_)
  · skip
    have b4 := hb
    replace h := h.1 hb
    refine s_iconst (q := 184) 99 rfl ?_
    refine s_istore (q := 186) (lv' := [(6, (0, 0)), (0, (2, x0)), (3, (0, x3)), (5, (0, x5))]) 100 rfl rfl ?_
    refine PW.pick [1, 2, 3, 0] rfl ?_
    exact h
  · skip
    have b4 := hb
    replace h := h.2 hb
    refine s_aload_n (q := 159) 86 0 rfl rfl ?_
    refine n_getf (q := 162) (jj := 73) 87 12 73 rfl kX12_168 c1 ?_
    refine s_iload (q := 164) 88 3 rfl rfl ?_
    refine s_aload_n (q := 165) 89 0 rfl rfl ?_
    refine n_getf (q := 168) (jj := 3) 90 12 3 rfl kX12_13 c1 ?_
    refine s_iload (q := 170) 91 3 rfl rfl ?_
    refine n_callS (N := mX12_operatorAt) (as := [(0, x6)]) (st := [(2, F x0 3), (0, x6), (2, F x0 73)]) (q := 173) (d' := 0) 92 rfl uX12_operatorAt kX12_210 rfl ?_
    show PW l G 0 mX12_operatorAt (0, 0) 0 [(0, (0, x6))] [] (n, K, F, E) _
    refine s_bipush (q := 2) 0 rfl ?_
    refine s_bipush (q := 4) 1 rfl ?_
    refine s_iload_n (q := 5) 2 0 rfl rfl ?_
    obtain ⟨c5, h⟩ := h
    refine n_imul (q := 6) 3 rfl c5 ?_
    obtain ⟨c6, h⟩ := h
    refine n_iadd (q := 7) 4 rfl c6 ?_
    refine s_iret 5 rfl rfl ?_
    show PW l G 8 mX12_days bg 173 [(0, (2, x0)), (3, (0, x3)), (5, (0, x5)), (6, (0, x6))] [(0, 18 + (6 * x6)), (2, F x0 3), (0, x6), (2, F x0 73)] (n, K, F, E) Q
    refine s_iconst (q := 174) 93 rfl ?_
    obtain ⟨c7, h⟩ := h
    refine n_iadd (q := 175) 94 rfl c7 ?_
    obtain ⟨c8, h⟩ := h
    refine n_iald (q := 176) 95 rfl c2 c8 ?_
    obtain ⟨c9, h⟩ := h
    obtain ⟨c10, h⟩ := h
    obtain ⟨c11, h⟩ := h
    refine n_iast (q := 177) 96 rfl c9 c10 c11 ?_
    refine PW.nameE (fun E1 eE1 => ?_)
    replace h := h E1 eE1
    obtain ⟨c12, h⟩ := h
    refine n_iinc (q := 180) (lv' := [(6, (0, x6 + 1)), (0, (2, x0)), (3, (0, x3)), (5, (0, x5))]) 97 3 rfl rfl c12 rfl ?_
    refine s_goto (tgt := 146) 98 rfl rfl ?_
    refine PW.pick [1, 2, 3, 0] rfl ?_
    exact h
theorem vX12_days_186 {l : Launch} {G : pG} {bg : Nat × Nat} {n : Nat} {K : Int → Nat × Nat} {F E : Int → Int → Int} {Q : Option pV → pM → Prop} (x0 x3 x5 x6 : Int) (h : ((3 ≤ x6 → (K x0).1 = 12 ∧ (K (F x0 3)).1 = 20 ∧ ((0 : Int) ≤ 6 ∧ 6 < ((K (F x0 3)).2 : Int)) ∧ (∀ F1, F1 = pUp F x0 74 (E (F x0 3) 6) → PC l G 1 mX12_giveBack (0, 0) [(2, x0), (0, x3)] (n, K, F1, E) (fun r μ => PW l G 8 mX12_days bg 233 [(0, (2, x0)), (5, (0, x5))] (r.toList ++ []) μ Q))) ∧ (¬ (3 ≤ x6) → (K x0).1 = 12 ∧ (-2147483648 ≤ 4 + x6 ∧ 4 + x6 < 2147483648) ∧ (-2147483648 ≤ 15 + x6 ∧ 15 + x6 < 2147483648) ∧ (K (F x0 3)).1 = 20 ∧ ((0 : Int) ≤ 15 + x6 ∧ 15 + x6 < ((K (F x0 3)).2 : Int)) ∧ (0 : Int) ≤ F x0 73 ∧ (K (F x0 73)).1 = 20 ∧ ((0 : Int) ≤ 4 + x6 ∧ 4 + x6 < ((K (F x0 73)).2 : Int)) ∧ (∀ E2, E2 = pUp E (F x0 73) (4 + x6) (E (F x0 3) (15 + x6)) → (-2147483648 ≤ x6 + 1 ∧ x6 + 1 < 2147483648) ∧ PW l G 8 mX12_days bg 186 [(0, (2, x0)), (3, (0, x3)), (5, (0, x5)), (6, (0, x6 + 1))] [] (n, K, F, E2) Q)))) : PW l G 8 mX12_days bg 186 [(0, (2, x0)), (3, (0, x3)), (5, (0, x5)), (6, (0, x6))] [] (n, K, F, E) Q := by
  refine s_iload (q := 188) 101 3 rfl rfl ?_
  refine s_iconst (q := 189) 102 rfl ?_
  refine s_icmp_ge (q := 192) (tgt := 217) 103 rfl rfl (fun hb => ?_) (fun hb => ?_)
  · skip
    have b1 := hb
    replace h := h.1 hb
    refine s_aload_n (q := 218) 118 0 rfl rfl ?_
    refine s_aload_n (q := 219) 119 0 rfl rfl ?_
    obtain ⟨c2, h⟩ := h
    refine n_getf (q := 222) (jj := 3) 120 12 3 rfl kX12_13 c2 ?_
    refine s_bipush (q := 224) 121 rfl ?_
    obtain ⟨c3, h⟩ := h
    obtain ⟨c4, h⟩ := h
    refine n_iald (q := 225) 122 rfl c3 c4 ?_
    refine n_putf (q := 228) (jj := 74) 123 12 74 rfl kX12_171 c2 (Or.inl rfl) ?_
    refine PW.nameF (fun F1 eF1 => ?_)
    replace h := h F1 eF1
    refine s_aload_n (q := 229) 124 0 rfl rfl ?_
    refine s_iload_n (q := 230) 125 1 rfl rfl ?_
    refine PW.pick [0, 2] rfl ?_
    exact n_callV (N := mX12_giveBack) (as := [(0, x3)]) (st := []) (q := 233) (d' := 1) 126 rfl uX12_giveBack kX12_611 rfl c2 h
  · skip
    have b1 := hb
    replace h := h.2 hb
    refine s_aload_n (q := 193) 104 0 rfl rfl ?_
    obtain ⟨c5, h⟩ := h
    refine n_getf (q := 196) (jj := 73) 105 12 73 rfl kX12_168 c5 ?_
    refine s_iconst (q := 197) 106 rfl ?_
    refine s_iload (q := 199) 107 3 rfl rfl ?_
    obtain ⟨c6, h⟩ := h
    refine n_iadd (q := 200) 108 rfl c6 ?_
    refine s_aload_n (q := 201) 109 0 rfl rfl ?_
    refine n_getf (q := 204) (jj := 3) 110 12 3 rfl kX12_13 c5 ?_
    refine s_bipush (q := 206) 111 rfl ?_
    refine s_iload (q := 208) 112 3 rfl rfl ?_
    obtain ⟨c7, h⟩ := h
    refine n_iadd (q := 209) 113 rfl c7 ?_
    obtain ⟨c8, h⟩ := h
    obtain ⟨c9, h⟩ := h
    refine n_iald (q := 210) 114 rfl c8 c9 ?_
    obtain ⟨c10, h⟩ := h
    obtain ⟨c11, h⟩ := h
    obtain ⟨c12, h⟩ := h
    refine n_iast (q := 211) 115 rfl c10 c11 c12 ?_
    refine PW.nameE (fun E2 eE2 => ?_)
    replace h := h E2 eE2
    obtain ⟨c13, h⟩ := h
    refine n_iinc (q := 214) (lv' := [(6, (0, x6 + 1)), (0, (2, x0)), (3, (0, x3)), (5, (0, x5))]) 116 3 rfl rfl c13 rfl ?_
    refine s_goto (tgt := 186) 117 rfl rfl ?_
    refine PW.pick [1, 2, 3, 0] rfl ?_
    exact h
theorem vX12_days_233 {l : Launch} {G : pG} {bg : Nat × Nat} {n : Nat} {K : Int → Nat × Nat} {F E : Int → Int → Int} {Q : Option pV → pM → Prop} (x0 x5 : Int) (h : (K x0).1 = 12 ∧ PC l G 0 mX12_tell (0, 0) [(2, x0), (0, x5)] (n, K, F, E) (fun r μ => PW l G 8 mX12_days bg 239 [] (r.toList ++ []) μ Q)) : PW l G 8 mX12_days bg 233 [(0, (2, x0)), (5, (0, x5))] [] (n, K, F, E) Q := by
  refine s_aload_n (q := 234) 127 0 rfl rfl ?_
  refine s_iload (q := 236) 128 1 rfl rfl ?_
  obtain ⟨c1, h⟩ := h
  refine PW.pick [] rfl ?_
  exact n_callV (N := mX12_tell) (as := [(0, x5)]) (st := []) (q := 239) (d' := 0) 129 rfl uX12_tell kX12_190 rfl c1 h
theorem vX12_days_239 {l : Launch} {G : pG} {bg : Nat × Nat} {n : Nat} {K : Int → Nat × Nat} {F E : Int → Int → Int} {Q : Option pV → pM → Prop} (s0 : Int) (h : Q (some (0, s0)) (n, K, F, E)) : PW l G 8 mX12_days bg 239 [] [(0, s0)] (n, K, F, E) Q := by
  exact s_iret 130 rfl rfl h
theorem vX12_drawn_0 {l : Launch} {G : pG} {bg : Nat × Nat} {n : Nat} {K : Int → Nat × Nat} {F E : Int → Int → Int} {Q : Option pV → pM → Prop} (x0 x1 x2 : Int) (h : (K x0).1 = 12 ∧ (∀ F1, F1 = pUp F x0 0 0 → ((¬ (F x0 74) = (-1) → ((¬ x2 = 0 → ((¬ x2 = 1 → Q (some (0, (-1000))) (n, K, F1, E)) ∧ (x2 = 1 → ((¬ (0 ≤ x1 ∧ x1 < 3) → Q (some (0, (-1000))) (n, K, F1, E)) ∧ (0 ≤ x1 ∧ x1 < 3 → (-2147483648 ≤ 4 + x1 ∧ 4 + x1 < 2147483648) ∧ (K (F x0 73)).1 = 20 ∧ ((0 : Int) ≤ 4 + x1 ∧ 4 + x1 < ((K (F x0 73)).2 : Int)) ∧ Q (some (0, E (F x0 73) (4 + x1))) (n, K, F1, E)))))) ∧ (x2 = 0 → (-9223372036854775808 ≤ (F x0 74) - 1 ∧ (F x0 74) - 1 < 9223372036854775808) ∧ ((¬ (0 ≤ x1 ∧ x1 ≤ (F x0 74) - 1) → ((¬ x2 = 1 → Q (some (0, (-1000))) (n, K, F1, E)) ∧ (x2 = 1 → ((¬ (0 ≤ x1 ∧ x1 < 3) → Q (some (0, (-1000))) (n, K, F1, E)) ∧ (0 ≤ x1 ∧ x1 < 3 → (-2147483648 ≤ 4 + x1 ∧ 4 + x1 < 2147483648) ∧ (K (F x0 73)).1 = 20 ∧ ((0 : Int) ≤ 4 + x1 ∧ 4 + x1 < ((K (F x0 73)).2 : Int)) ∧ Q (some (0, E (F x0 73) (4 + x1))) (n, K, F1, E)))))) ∧ (0 ≤ x1 ∧ x1 ≤ (F x0 74) - 1 → (K (F x0 73)).1 = 20 ∧ ((0 : Int) ≤ x1 ∧ x1 < ((K (F x0 73)).2 : Int)) ∧ Q (some (0, E (F x0 73) x1)) (n, K, F1, E)))))) ∧ ((F x0 74) = (-1) → Q (some (0, (-1000))) (n, K, F1, E))))) : PW l G 2 mX12_drawn bg 0 [(0, (2, x0)), (1, (0, x1)), (2, (0, x2))] [] (n, K, F, E) Q := by
  refine s_aload_n (q := 1) 0 0 rfl rfl ?_
  refine s_iconst (q := 2) 1 rfl ?_
  obtain ⟨c1, h⟩ := h
  refine n_putf (q := 5) (jj := 0) 2 12 0 rfl kX12_174 c1 (Or.inl rfl) ?_
  refine PW.nameF (fun F1 eF1 => ?_)
  replace h := h F1 eF1
  refine s_aload_n (q := 6) 3 0 rfl rfl ?_
  refine n_getf (q := 9) (jj := 74) 4 12 74 rfl kX12_171 c1 ?_
  refine PW.top (b := F x0 74) (by exact (congrFun (congrFun eF1 _) _).trans (pUp_k (by decide))) ?_
  refine s_iconst (q := 10) 5 rfl ?_
  refine s_icmp_ne (q := 13) (tgt := 17) 6 rfl rfl (fun hb => ?_) (fun hb => ?_)
  · skip
    have b2 := hb
    replace h := h.1 hb
    refine s_iload_n (q := 18) 9 2 rfl rfl ?_
    refine s_if_ne (q := 21) (tgt := 46) 10 rfl rfl (fun hb => ?_) (fun hb => ?_)
    · skip
      have b3 := hb
      replace h := h.1 hb
      refine s_iload_n (q := 47) 26 2 rfl rfl ?_
      refine s_iconst (q := 48) 27 rfl ?_
      refine s_icmp_ne (q := 51) (tgt := 69) 28 rfl rfl (fun hb => ?_) (fun hb => ?_)
      · skip
        have b4 := hb
        replace h := h.1 hb
        refine s_sipush (q := 72) 39 rfl ?_
        exact s_iret 40 rfl rfl h
      · have hb := Classical.not_not.mp hb
        have b4 := hb
        replace h := h.2 hb
        refine s_iload_n (q := 52) 29 1 rfl rfl ?_
        refine n_callS (N := mX12_isRelation) (as := [(0, x1)]) (st := []) (q := 55) (d' := 1) 30 rfl uX12_isRelation kX12_201 rfl (pX12_isRelation ?_)
        show PW l G 2 mX12_drawn bg 55 [(0, (2, x0)), (1, (0, x1)), (2, (0, x2))] [(0, bI (0 ≤ x1 ∧ x1 < 3))] (n, K, F1, E) Q
        refine s_if_eq (q := 58) (tgt := 69) 31 rfl rfl (fun hb => ?_) (fun hb => ?_)
        · have hb := bI_f hb
          have b5 := hb
          replace h := h.1 hb
          refine s_sipush (q := 72) 39 rfl ?_
          exact s_iret 40 rfl rfl h
        · have hb := bI_t hb
          have b5 := hb
          replace h := h.2 hb
          refine s_aload_n (q := 59) 32 0 rfl rfl ?_
          refine n_getf (q := 62) (jj := 73) 33 12 73 rfl kX12_168 c1 ?_
          refine PW.top (b := F x0 73) (by exact (congrFun (congrFun eF1 _) _).trans (pUp_k (by decide))) ?_
          refine s_iconst (q := 63) 34 rfl ?_
          refine s_iload_n (q := 64) 35 1 rfl rfl ?_
          obtain ⟨c6, h⟩ := h
          refine n_iadd (q := 65) 36 rfl c6 ?_
          obtain ⟨c7, h⟩ := h
          obtain ⟨c8, h⟩ := h
          refine n_iald (q := 66) 37 rfl c7 c8 ?_
          refine s_goto (tgt := 72) 38 rfl rfl ?_
          exact s_iret 40 rfl rfl h
    · have hb := Classical.not_not.mp hb
      have b3 := hb
      replace h := h.2 hb
      refine s_iload_n (q := 22) 11 1 rfl rfl ?_
      refine s_i2l (q := 23) 12 rfl ?_
      refine s_lconst (q := 24) (x := 0) 13 rfl ?_
      refine s_aload_n (q := 25) 14 0 rfl rfl ?_
      refine n_getf (q := 28) (jj := 74) 15 12 74 rfl kX12_171 c1 ?_
      refine PW.top (b := F x0 74) (by exact (congrFun (congrFun eF1 _) _).trans (pUp_k (by decide))) ?_
      refine s_i2l (q := 29) 16 rfl ?_
      refine s_lconst (q := 30) (x := 1) 17 rfl ?_
      obtain ⟨c9, h⟩ := h
      refine n_lsub (q := 31) 18 rfl c9 ?_
      refine n_callS (N := mX12_in) (as := [(1, x1), (1, 0), (1, (F x0 74) - 1)]) (st := []) (q := 34) (d' := 0) 19 rfl uX12_in kX12_197 rfl (pX12_in ?_)
      show PW l G 2 mX12_drawn bg 34 [(0, (2, x0)), (1, (0, x1)), (2, (0, x2))] [(0, bI (0 ≤ x1 ∧ x1 ≤ (F x0 74) - 1))] (n, K, F1, E) Q
      refine s_if_eq (q := 37) (tgt := 46) 20 rfl rfl (fun hb => ?_) (fun hb => ?_)
      · have hb := bI_f hb
        have b10 := hb
        replace h := h.1 hb
        refine s_iload_n (q := 47) 26 2 rfl rfl ?_
        refine s_iconst (q := 48) 27 rfl ?_
        refine s_icmp_ne (q := 51) (tgt := 69) 28 rfl rfl (fun hb => ?_) (fun hb => ?_)
        · skip
          have b11 := hb
          replace h := h.1 hb
          refine s_sipush (q := 72) 39 rfl ?_
          exact s_iret 40 rfl rfl h
        · have hb := Classical.not_not.mp hb
          have b11 := hb
          replace h := h.2 hb
          refine s_iload_n (q := 52) 29 1 rfl rfl ?_
          refine n_callS (N := mX12_isRelation) (as := [(0, x1)]) (st := []) (q := 55) (d' := 1) 30 rfl uX12_isRelation kX12_201 rfl (pX12_isRelation ?_)
          show PW l G 2 mX12_drawn bg 55 [(0, (2, x0)), (1, (0, x1)), (2, (0, x2))] [(0, bI (0 ≤ x1 ∧ x1 < 3))] (n, K, F1, E) Q
          refine s_if_eq (q := 58) (tgt := 69) 31 rfl rfl (fun hb => ?_) (fun hb => ?_)
          · have hb := bI_f hb
            have b12 := hb
            replace h := h.1 hb
            refine s_sipush (q := 72) 39 rfl ?_
            exact s_iret 40 rfl rfl h
          · have hb := bI_t hb
            have b12 := hb
            replace h := h.2 hb
            refine s_aload_n (q := 59) 32 0 rfl rfl ?_
            refine n_getf (q := 62) (jj := 73) 33 12 73 rfl kX12_168 c1 ?_
            refine PW.top (b := F x0 73) (by exact (congrFun (congrFun eF1 _) _).trans (pUp_k (by decide))) ?_
            refine s_iconst (q := 63) 34 rfl ?_
            refine s_iload_n (q := 64) 35 1 rfl rfl ?_
            obtain ⟨c13, h⟩ := h
            refine n_iadd (q := 65) 36 rfl c13 ?_
            obtain ⟨c14, h⟩ := h
            obtain ⟨c15, h⟩ := h
            refine n_iald (q := 66) 37 rfl c14 c15 ?_
            refine s_goto (tgt := 72) 38 rfl rfl ?_
            exact s_iret 40 rfl rfl h
      · have hb := bI_t hb
        have b10 := hb
        replace h := h.2 hb
        refine s_aload_n (q := 38) 21 0 rfl rfl ?_
        refine n_getf (q := 41) (jj := 73) 22 12 73 rfl kX12_168 c1 ?_
        refine PW.top (b := F x0 73) (by exact (congrFun (congrFun eF1 _) _).trans (pUp_k (by decide))) ?_
        refine s_iload_n (q := 42) 23 1 rfl rfl ?_
        obtain ⟨c16, h⟩ := h
        obtain ⟨c17, h⟩ := h
        refine n_iald (q := 43) 24 rfl c16 c17 ?_
        refine s_goto (tgt := 72) 25 rfl rfl ?_
        exact s_iret 40 rfl rfl h
  · have hb := Classical.not_not.mp hb
    have b2 := hb
    replace h := h.2 hb
    refine s_sipush (q := 16) 7 rfl ?_
    exact s_iret 8 rfl rfl h
theorem vX12_count_0 {l : Launch} {G : pG} {bg : Nat × Nat} {n : Nat} {K : Int → Nat × Nat} {F E : Int → Int → Int} {Q : Option pV → pM → Prop} (x0 x1 : Int) (h : (K x0).1 = 12 ∧ (∀ F1, F1 = pUp F x0 0 0 → (((x1 < 0 ∨ 17 < x1) → PW l G 1 mX12_count bg 193 [(0, (2, x0)), (1, (0, x1))] [] (n, K, F1, E) Q) ∧ (x1 = 0 → PW l G 1 mX12_count bg 92 [(0, (2, x0))] [] (n, K, F1, E) Q) ∧ (x1 = 1 → PW l G 1 mX12_count bg 100 [(0, (2, x0))] [] (n, K, F1, E) Q) ∧ (x1 = 2 → PW l G 1 mX12_count bg 108 [(0, (2, x0))] [] (n, K, F1, E) Q) ∧ (x1 = 3 → PW l G 1 mX12_count bg 116 [(0, (2, x0))] [] (n, K, F1, E) Q) ∧ (x1 = 4 → PW l G 1 mX12_count bg 123 [(0, (2, x0))] [] (n, K, F1, E) Q) ∧ (x1 = 5 → PW l G 1 mX12_count bg 130 [(0, (2, x0))] [] (n, K, F1, E) Q) ∧ (x1 = 6 → PW l G 1 mX12_count bg 135 [(0, (2, x0))] [] (n, K, F1, E) Q) ∧ (x1 = 7 → PW l G 1 mX12_count bg 140 [(0, (2, x0))] [] (n, K, F1, E) Q) ∧ (x1 = 8 → PW l G 1 mX12_count bg 147 [(0, (2, x0))] [] (n, K, F1, E) Q) ∧ (x1 = 9 → PW l G 1 mX12_count bg 154 [(0, (2, x0))] [] (n, K, F1, E) Q) ∧ (x1 = 10 → PW l G 1 mX12_count bg 161 [(0, (2, x0))] [] (n, K, F1, E) Q) ∧ (x1 = 11 → PW l G 1 mX12_count bg 168 [(0, (2, x0))] [] (n, K, F1, E) Q) ∧ (x1 = 12 → PW l G 1 mX12_count bg 176 [(0, (2, x0))] [] (n, K, F1, E) Q) ∧ (x1 = 13 → PW l G 1 mX12_count bg 193 [(0, (2, x0)), (1, (0, x1))] [] (n, K, F1, E) Q) ∧ (x1 = 14 → PW l G 1 mX12_count bg 193 [(0, (2, x0)), (1, (0, x1))] [] (n, K, F1, E) Q) ∧ (x1 = 15 → PW l G 1 mX12_count bg 193 [(0, (2, x0)), (1, (0, x1))] [] (n, K, F1, E) Q) ∧ (x1 = 16 → PW l G 1 mX12_count bg 183 [(0, (2, x0))] [] (n, K, F1, E) Q) ∧ (x1 = 17 → PW l G 1 mX12_count bg 188 [(0, (2, x0))] [] (n, K, F1, E) Q)))) : PW l G 1 mX12_count bg 0 [(0, (2, x0)), (1, (0, x1))] [] (n, K, F, E) Q := by
  refine s_aload_n (q := 1) 0 0 rfl rfl ?_
  refine s_iconst (q := 2) 1 rfl ?_
  obtain ⟨c1, h⟩ := h
  refine n_putf (q := 5) (jj := 0) 2 12 0 rfl kX12_174 c1 (Or.inl rfl) ?_
  refine PW.nameF (fun F1 eF1 => ?_)
  replace h := h F1 eF1
  refine s_iload_n (q := 6) 3 1 rfl rfl ?_
  obtain ⟨h0, h⟩ := h
  by_cases hsw : x1 < 0 ∨ 17 < x1
  · refine s_tableOut (tgt := 193) 4 rfl hsw rfl ?_
    replace h := h0 hsw
    refine PW.pick [0, 1] rfl ?_
    exact h
  have gl : 0 ≤ x1 := by omega
  have gh : x1 ≤ 17 := by omega
  clear hsw
  obtain ⟨h0, h⟩ := h
  by_cases hs0 : x1 = 0
  · refine s_tableIn (tgt := 92) (off := 86) 4 rfl ⟨by rw [hs0]; decide, by rw [hs0]; decide⟩ (by rw [hs0]; rfl) rfl ?_
    replace h := h0 hs0
    refine PW.pick [0] rfl ?_
    exact h
  clear h0
  replace gl : 1 ≤ x1 := by clear h; omega
  clear hs0
  obtain ⟨h0, h⟩ := h
  by_cases hs0 : x1 = 1
  · refine s_tableIn (tgt := 100) (off := 94) 4 rfl ⟨by rw [hs0]; decide, by rw [hs0]; decide⟩ (by rw [hs0]; rfl) rfl ?_
    replace h := h0 hs0
    refine PW.pick [0] rfl ?_
    exact h
  clear h0
  replace gl : 2 ≤ x1 := by clear h; omega
  clear hs0
  obtain ⟨h0, h⟩ := h
  by_cases hs0 : x1 = 2
  · refine s_tableIn (tgt := 108) (off := 102) 4 rfl ⟨by rw [hs0]; decide, by rw [hs0]; decide⟩ (by rw [hs0]; rfl) rfl ?_
    replace h := h0 hs0
    refine PW.pick [0] rfl ?_
    exact h
  clear h0
  replace gl : 3 ≤ x1 := by clear h; omega
  clear hs0
  obtain ⟨h0, h⟩ := h
  by_cases hs0 : x1 = 3
  · refine s_tableIn (tgt := 116) (off := 110) 4 rfl ⟨by rw [hs0]; decide, by rw [hs0]; decide⟩ (by rw [hs0]; rfl) rfl ?_
    replace h := h0 hs0
    refine PW.pick [0] rfl ?_
    exact h
  clear h0
  replace gl : 4 ≤ x1 := by clear h; omega
  clear hs0
  obtain ⟨h0, h⟩ := h
  by_cases hs0 : x1 = 4
  · refine s_tableIn (tgt := 123) (off := 117) 4 rfl ⟨by rw [hs0]; decide, by rw [hs0]; decide⟩ (by rw [hs0]; rfl) rfl ?_
    replace h := h0 hs0
    refine PW.pick [0] rfl ?_
    exact h
  clear h0
  replace gl : 5 ≤ x1 := by clear h; omega
  clear hs0
  obtain ⟨h0, h⟩ := h
  by_cases hs0 : x1 = 5
  · refine s_tableIn (tgt := 130) (off := 124) 4 rfl ⟨by rw [hs0]; decide, by rw [hs0]; decide⟩ (by rw [hs0]; rfl) rfl ?_
    replace h := h0 hs0
    refine PW.pick [0] rfl ?_
    exact h
  clear h0
  replace gl : 6 ≤ x1 := by clear h; omega
  clear hs0
  obtain ⟨h0, h⟩ := h
  by_cases hs0 : x1 = 6
  · refine s_tableIn (tgt := 135) (off := 129) 4 rfl ⟨by rw [hs0]; decide, by rw [hs0]; decide⟩ (by rw [hs0]; rfl) rfl ?_
    replace h := h0 hs0
    refine PW.pick [0] rfl ?_
    exact h
  clear h0
  replace gl : 7 ≤ x1 := by clear h; omega
  clear hs0
  obtain ⟨h0, h⟩ := h
  by_cases hs0 : x1 = 7
  · refine s_tableIn (tgt := 140) (off := 134) 4 rfl ⟨by rw [hs0]; decide, by rw [hs0]; decide⟩ (by rw [hs0]; rfl) rfl ?_
    replace h := h0 hs0
    refine PW.pick [0] rfl ?_
    exact h
  clear h0
  replace gl : 8 ≤ x1 := by clear h; omega
  clear hs0
  obtain ⟨h0, h⟩ := h
  by_cases hs0 : x1 = 8
  · refine s_tableIn (tgt := 147) (off := 141) 4 rfl ⟨by rw [hs0]; decide, by rw [hs0]; decide⟩ (by rw [hs0]; rfl) rfl ?_
    replace h := h0 hs0
    refine PW.pick [0] rfl ?_
    exact h
  clear h0
  replace gl : 9 ≤ x1 := by clear h; omega
  clear hs0
  obtain ⟨h0, h⟩ := h
  by_cases hs0 : x1 = 9
  · refine s_tableIn (tgt := 154) (off := 148) 4 rfl ⟨by rw [hs0]; decide, by rw [hs0]; decide⟩ (by rw [hs0]; rfl) rfl ?_
    replace h := h0 hs0
    refine PW.pick [0] rfl ?_
    exact h
  clear h0
  replace gl : 10 ≤ x1 := by clear h; omega
  clear hs0
  obtain ⟨h0, h⟩ := h
  by_cases hs0 : x1 = 10
  · refine s_tableIn (tgt := 161) (off := 155) 4 rfl ⟨by rw [hs0]; decide, by rw [hs0]; decide⟩ (by rw [hs0]; rfl) rfl ?_
    replace h := h0 hs0
    refine PW.pick [0] rfl ?_
    exact h
  clear h0
  replace gl : 11 ≤ x1 := by clear h; omega
  clear hs0
  obtain ⟨h0, h⟩ := h
  by_cases hs0 : x1 = 11
  · refine s_tableIn (tgt := 168) (off := 162) 4 rfl ⟨by rw [hs0]; decide, by rw [hs0]; decide⟩ (by rw [hs0]; rfl) rfl ?_
    replace h := h0 hs0
    refine PW.pick [0] rfl ?_
    exact h
  clear h0
  replace gl : 12 ≤ x1 := by clear h; omega
  clear hs0
  obtain ⟨h0, h⟩ := h
  by_cases hs0 : x1 = 12
  · refine s_tableIn (tgt := 176) (off := 170) 4 rfl ⟨by rw [hs0]; decide, by rw [hs0]; decide⟩ (by rw [hs0]; rfl) rfl ?_
    replace h := h0 hs0
    refine PW.pick [0] rfl ?_
    exact h
  clear h0
  replace gl : 13 ≤ x1 := by clear h; omega
  clear hs0
  obtain ⟨h0, h⟩ := h
  by_cases hs0 : x1 = 13
  · refine s_tableIn (tgt := 193) (off := 187) 4 rfl ⟨by rw [hs0]; decide, by rw [hs0]; decide⟩ (by rw [hs0]; rfl) rfl ?_
    replace h := h0 hs0
    refine PW.pick [0, 1] rfl ?_
    exact h
  clear h0
  replace gl : 14 ≤ x1 := by clear h; omega
  clear hs0
  obtain ⟨h0, h⟩ := h
  by_cases hs0 : x1 = 14
  · refine s_tableIn (tgt := 193) (off := 187) 4 rfl ⟨by rw [hs0]; decide, by rw [hs0]; decide⟩ (by rw [hs0]; rfl) rfl ?_
    replace h := h0 hs0
    refine PW.pick [0, 1] rfl ?_
    exact h
  clear h0
  replace gl : 15 ≤ x1 := by clear h; omega
  clear hs0
  obtain ⟨h0, h⟩ := h
  by_cases hs0 : x1 = 15
  · refine s_tableIn (tgt := 193) (off := 187) 4 rfl ⟨by rw [hs0]; decide, by rw [hs0]; decide⟩ (by rw [hs0]; rfl) rfl ?_
    replace h := h0 hs0
    refine PW.pick [0, 1] rfl ?_
    exact h
  clear h0
  replace gl : 16 ≤ x1 := by clear h; omega
  clear hs0
  obtain ⟨h0, h⟩ := h
  by_cases hs0 : x1 = 16
  · refine s_tableIn (tgt := 183) (off := 177) 4 rfl ⟨by rw [hs0]; decide, by rw [hs0]; decide⟩ (by rw [hs0]; rfl) rfl ?_
    replace h := h0 hs0
    refine PW.pick [0] rfl ?_
    exact h
  clear h0
  replace gl : 17 ≤ x1 := by clear h; omega
  clear hs0
  have h0 := h
  by_cases hs0 : x1 = 17
  · refine s_tableIn (tgt := 188) (off := 182) 4 rfl ⟨by rw [hs0]; decide, by rw [hs0]; decide⟩ (by rw [hs0]; rfl) rfl ?_
    replace h := h0 hs0
    refine PW.pick [0] rfl ?_
    exact h
  clear h0
  replace gl : 18 ≤ x1 := by clear h; omega
  clear hs0
  clear h
  exfalso
  omega
theorem vX12_count_92 {l : Launch} {G : pG} {bg : Nat × Nat} {n : Nat} {K : Int → Nat × Nat} {F E : Int → Int → Int} {Q : Option pV → pM → Prop} (x0 : Int) (h : (K x0).1 = 12 ∧ (K (F x0 3)).1 = 20 ∧ ((0 : Int) ≤ 6 ∧ 6 < ((K (F x0 3)).2 : Int)) ∧ Q (some (0, E (F x0 3) 6)) (n, K, F, E)) : PW l G 1 mX12_count bg 92 [(0, (2, x0))] [] (n, K, F, E) Q := by
  refine s_aload_n (q := 93) 5 0 rfl rfl ?_
  obtain ⟨c1, h⟩ := h
  refine n_getf (q := 96) (jj := 3) 6 12 3 rfl kX12_13 c1 ?_
  refine s_bipush (q := 98) 7 rfl ?_
  obtain ⟨c2, h⟩ := h
  obtain ⟨c3, h⟩ := h
  refine n_iald (q := 99) 8 rfl c2 c3 ?_
  exact s_iret 9 rfl rfl h
theorem vX12_count_100 {l : Launch} {G : pG} {bg : Nat × Nat} {n : Nat} {K : Int → Nat × Nat} {F E : Int → Int → Int} {Q : Option pV → pM → Prop} (x0 : Int) (h : (K x0).1 = 12 ∧ (K (F x0 3)).1 = 20 ∧ ((0 : Int) ≤ 7 ∧ 7 < ((K (F x0 3)).2 : Int)) ∧ Q (some (0, E (F x0 3) 7)) (n, K, F, E)) : PW l G 1 mX12_count bg 100 [(0, (2, x0))] [] (n, K, F, E) Q := by
  refine s_aload_n (q := 101) 10 0 rfl rfl ?_
  obtain ⟨c1, h⟩ := h
  refine n_getf (q := 104) (jj := 3) 11 12 3 rfl kX12_13 c1 ?_
  refine s_bipush (q := 106) 12 rfl ?_
  obtain ⟨c2, h⟩ := h
  obtain ⟨c3, h⟩ := h
  refine n_iald (q := 107) 13 rfl c2 c3 ?_
  exact s_iret 14 rfl rfl h
theorem vX12_count_108 {l : Launch} {G : pG} {bg : Nat × Nat} {n : Nat} {K : Int → Nat × Nat} {F E : Int → Int → Int} {Q : Option pV → pM → Prop} (x0 : Int) (h : (K x0).1 = 12 ∧ (K (F x0 3)).1 = 20 ∧ ((0 : Int) ≤ 8 ∧ 8 < ((K (F x0 3)).2 : Int)) ∧ Q (some (0, E (F x0 3) 8)) (n, K, F, E)) : PW l G 1 mX12_count bg 108 [(0, (2, x0))] [] (n, K, F, E) Q := by
  refine s_aload_n (q := 109) 15 0 rfl rfl ?_
  obtain ⟨c1, h⟩ := h
  refine n_getf (q := 112) (jj := 3) 16 12 3 rfl kX12_13 c1 ?_
  refine s_bipush (q := 114) 17 rfl ?_
  obtain ⟨c2, h⟩ := h
  obtain ⟨c3, h⟩ := h
  refine n_iald (q := 115) 18 rfl c2 c3 ?_
  exact s_iret 19 rfl rfl h
theorem vX12_count_116 {l : Launch} {G : pG} {bg : Nat × Nat} {n : Nat} {K : Int → Nat × Nat} {F E : Int → Int → Int} {Q : Option pV → pM → Prop} (x0 : Int) (h : (K x0).1 = 12 ∧ (K (F x0 3)).1 = 20 ∧ ((0 : Int) ≤ 0 ∧ 0 < ((K (F x0 3)).2 : Int)) ∧ Q (some (0, E (F x0 3) 0)) (n, K, F, E)) : PW l G 1 mX12_count bg 116 [(0, (2, x0))] [] (n, K, F, E) Q := by
  refine s_aload_n (q := 117) 20 0 rfl rfl ?_
  obtain ⟨c1, h⟩ := h
  refine n_getf (q := 120) (jj := 3) 21 12 3 rfl kX12_13 c1 ?_
  refine s_iconst (q := 121) 22 rfl ?_
  obtain ⟨c2, h⟩ := h
  obtain ⟨c3, h⟩ := h
  refine n_iald (q := 122) 23 rfl c2 c3 ?_
  exact s_iret 24 rfl rfl h
theorem vX12_count_123 {l : Launch} {G : pG} {bg : Nat × Nat} {n : Nat} {K : Int → Nat × Nat} {F E : Int → Int → Int} {Q : Option pV → pM → Prop} (x0 : Int) (h : (K x0).1 = 12 ∧ (K (F x0 3)).1 = 20 ∧ ((0 : Int) ≤ 1 ∧ 1 < ((K (F x0 3)).2 : Int)) ∧ Q (some (0, E (F x0 3) 1)) (n, K, F, E)) : PW l G 1 mX12_count bg 123 [(0, (2, x0))] [] (n, K, F, E) Q := by
  refine s_aload_n (q := 124) 25 0 rfl rfl ?_
  obtain ⟨c1, h⟩ := h
  refine n_getf (q := 127) (jj := 3) 26 12 3 rfl kX12_13 c1 ?_
  refine s_iconst (q := 128) 27 rfl ?_
  obtain ⟨c2, h⟩ := h
  obtain ⟨c3, h⟩ := h
  refine n_iald (q := 129) 28 rfl c2 c3 ?_
  exact s_iret 29 rfl rfl h
theorem vX12_count_130 {l : Launch} {G : pG} {bg : Nat × Nat} {n : Nat} {K : Int → Nat × Nat} {F E : Int → Int → Int} {Q : Option pV → pM → Prop} (x0 : Int) (h : (K x0).1 = 12 ∧ Q (some (0, F x0 8)) (n, K, F, E)) : PW l G 1 mX12_count bg 130 [(0, (2, x0))] [] (n, K, F, E) Q := by
  refine s_aload_n (q := 131) 30 0 rfl rfl ?_
  obtain ⟨c1, h⟩ := h
  refine n_getf (q := 134) (jj := 8) 31 12 8 rfl kX12_180 c1 ?_
  exact s_iret 32 rfl rfl h
theorem vX12_count_135 {l : Launch} {G : pG} {bg : Nat × Nat} {n : Nat} {K : Int → Nat × Nat} {F E : Int → Int → Int} {Q : Option pV → pM → Prop} (x0 : Int) (h : (K x0).1 = 12 ∧ Q (some (0, F x0 13)) (n, K, F, E)) : PW l G 1 mX12_count bg 135 [(0, (2, x0))] [] (n, K, F, E) Q := by
  refine s_aload_n (q := 136) 33 0 rfl rfl ?_
  obtain ⟨c1, h⟩ := h
  refine n_getf (q := 139) (jj := 13) 34 12 13 rfl kX12_236 c1 ?_
  exact s_iret 35 rfl rfl h
theorem vX12_count_140 {l : Launch} {G : pG} {bg : Nat × Nat} {n : Nat} {K : Int → Nat × Nat} {F E : Int → Int → Int} {Q : Option pV → pM → Prop} (x0 : Int) (h : (K x0).1 = 12 ∧ (K (F x0 2)).1 = 20 ∧ ((0 : Int) ≤ 1 ∧ 1 < ((K (F x0 2)).2 : Int)) ∧ Q (some (0, E (F x0 2) 1)) (n, K, F, E)) : PW l G 1 mX12_count bg 140 [(0, (2, x0))] [] (n, K, F, E) Q := by
  refine s_aload_n (q := 141) 36 0 rfl rfl ?_
  obtain ⟨c1, h⟩ := h
  refine n_getf (q := 144) (jj := 2) 37 12 2 rfl kX12_7 c1 ?_
  refine s_iconst (q := 145) 38 rfl ?_
  obtain ⟨c2, h⟩ := h
  obtain ⟨c3, h⟩ := h
  refine n_iald (q := 146) 39 rfl c2 c3 ?_
  exact s_iret 40 rfl rfl h
theorem vX12_count_147 {l : Launch} {G : pG} {bg : Nat × Nat} {n : Nat} {K : Int → Nat × Nat} {F E : Int → Int → Int} {Q : Option pV → pM → Prop} (x0 : Int) (h : (K x0).1 = 12 ∧ (K (F x0 2)).1 = 20 ∧ ((0 : Int) ≤ 2 ∧ 2 < ((K (F x0 2)).2 : Int)) ∧ Q (some (0, E (F x0 2) 2)) (n, K, F, E)) : PW l G 1 mX12_count bg 147 [(0, (2, x0))] [] (n, K, F, E) Q := by
  refine s_aload_n (q := 148) 41 0 rfl rfl ?_
  obtain ⟨c1, h⟩ := h
  refine n_getf (q := 151) (jj := 2) 42 12 2 rfl kX12_7 c1 ?_
  refine s_iconst (q := 152) 43 rfl ?_
  obtain ⟨c2, h⟩ := h
  obtain ⟨c3, h⟩ := h
  refine n_iald (q := 153) 44 rfl c2 c3 ?_
  exact s_iret 45 rfl rfl h
theorem vX12_count_154 {l : Launch} {G : pG} {bg : Nat × Nat} {n : Nat} {K : Int → Nat × Nat} {F E : Int → Int → Int} {Q : Option pV → pM → Prop} (x0 : Int) (h : (K x0).1 = 12 ∧ (K (F x0 2)).1 = 20 ∧ ((0 : Int) ≤ 3 ∧ 3 < ((K (F x0 2)).2 : Int)) ∧ Q (some (0, E (F x0 2) 3)) (n, K, F, E)) : PW l G 1 mX12_count bg 154 [(0, (2, x0))] [] (n, K, F, E) Q := by
  refine s_aload_n (q := 155) 46 0 rfl rfl ?_
  obtain ⟨c1, h⟩ := h
  refine n_getf (q := 158) (jj := 2) 47 12 2 rfl kX12_7 c1 ?_
  refine s_iconst (q := 159) 48 rfl ?_
  obtain ⟨c2, h⟩ := h
  obtain ⟨c3, h⟩ := h
  refine n_iald (q := 160) 49 rfl c2 c3 ?_
  exact s_iret 50 rfl rfl h
theorem vX12_count_161 {l : Launch} {G : pG} {bg : Nat × Nat} {n : Nat} {K : Int → Nat × Nat} {F E : Int → Int → Int} {Q : Option pV → pM → Prop} (x0 : Int) (h : (K x0).1 = 12 ∧ (K (F x0 2)).1 = 20 ∧ ((0 : Int) ≤ 5 ∧ 5 < ((K (F x0 2)).2 : Int)) ∧ Q (some (0, E (F x0 2) 5)) (n, K, F, E)) : PW l G 1 mX12_count bg 161 [(0, (2, x0))] [] (n, K, F, E) Q := by
  refine s_aload_n (q := 162) 51 0 rfl rfl ?_
  obtain ⟨c1, h⟩ := h
  refine n_getf (q := 165) (jj := 2) 52 12 2 rfl kX12_7 c1 ?_
  refine s_iconst (q := 166) 53 rfl ?_
  obtain ⟨c2, h⟩ := h
  obtain ⟨c3, h⟩ := h
  refine n_iald (q := 167) 54 rfl c2 c3 ?_
  exact s_iret 55 rfl rfl h
theorem vX12_count_168 {l : Launch} {G : pG} {bg : Nat × Nat} {n : Nat} {K : Int → Nat × Nat} {F E : Int → Int → Int} {Q : Option pV → pM → Prop} (x0 : Int) (h : (K x0).1 = 12 ∧ (K (F x0 2)).1 = 20 ∧ ((0 : Int) ≤ 6 ∧ 6 < ((K (F x0 2)).2 : Int)) ∧ Q (some (0, E (F x0 2) 6)) (n, K, F, E)) : PW l G 1 mX12_count bg 168 [(0, (2, x0))] [] (n, K, F, E) Q := by
  refine s_aload_n (q := 169) 56 0 rfl rfl ?_
  obtain ⟨c1, h⟩ := h
  refine n_getf (q := 172) (jj := 2) 57 12 2 rfl kX12_7 c1 ?_
  refine s_bipush (q := 174) 58 rfl ?_
  obtain ⟨c2, h⟩ := h
  obtain ⟨c3, h⟩ := h
  refine n_iald (q := 175) 59 rfl c2 c3 ?_
  exact s_iret 60 rfl rfl h
theorem vX12_count_176 {l : Launch} {G : pG} {bg : Nat × Nat} {n : Nat} {K : Int → Nat × Nat} {F E : Int → Int → Int} {Q : Option pV → pM → Prop} (x0 : Int) (h : (K x0).1 = 12 ∧ (K (F x0 3)).1 = 20 ∧ ((0 : Int) ≤ 2 ∧ 2 < ((K (F x0 3)).2 : Int)) ∧ Q (some (0, E (F x0 3) 2)) (n, K, F, E)) : PW l G 1 mX12_count bg 176 [(0, (2, x0))] [] (n, K, F, E) Q := by
  refine s_aload_n (q := 177) 61 0 rfl rfl ?_
  obtain ⟨c1, h⟩ := h
  refine n_getf (q := 180) (jj := 3) 62 12 3 rfl kX12_13 c1 ?_
  refine s_iconst (q := 181) 63 rfl ?_
  obtain ⟨c2, h⟩ := h
  obtain ⟨c3, h⟩ := h
  refine n_iald (q := 182) 64 rfl c2 c3 ?_
  exact s_iret 65 rfl rfl h
theorem vX12_count_183 {l : Launch} {G : pG} {bg : Nat × Nat} {n : Nat} {K : Int → Nat × Nat} {F E : Int → Int → Int} {Q : Option pV → pM → Prop} (x0 : Int) (h : (K x0).1 = 12 ∧ Q (some (0, F x0 59)) (n, K, F, E)) : PW l G 1 mX12_count bg 183 [(0, (2, x0))] [] (n, K, F, E) Q := by
  refine s_aload_n (q := 184) 66 0 rfl rfl ?_
  obtain ⟨c1, h⟩ := h
  refine n_getf (q := 187) (jj := 59) 67 12 59 rfl kX12_530 c1 ?_
  exact s_iret 68 rfl rfl h
theorem vX12_count_188 {l : Launch} {G : pG} {bg : Nat × Nat} {n : Nat} {K : Int → Nat × Nat} {F E : Int → Int → Int} {Q : Option pV → pM → Prop} (x0 : Int) (h : (K x0).1 = 12 ∧ Q (some (0, F x0 61)) (n, K, F, E)) : PW l G 1 mX12_count bg 188 [(0, (2, x0))] [] (n, K, F, E) Q := by
  refine s_aload_n (q := 189) 69 0 rfl rfl ?_
  obtain ⟨c1, h⟩ := h
  refine n_getf (q := 192) (jj := 61) 70 12 61 rfl kX12_533 c1 ?_
  exact s_iret 71 rfl rfl h
theorem vX12_count_193 {l : Launch} {G : pG} {bg : Nat × Nat} {n : Nat} {K : Int → Nat × Nat} {F E : Int → Int → Int} {Q : Option pV → pM → Prop} (x0 x1 : Int) (h : ((¬ (13 ≤ x1 ∧ x1 ≤ 15) → Q (some (0, (-1))) (n, K, F, E)) ∧ (13 ≤ x1 ∧ x1 ≤ 15 → (K x0).1 = 12 ∧ (-2147483648 ≤ 3 + x1 ∧ 3 + x1 < 2147483648) ∧ (-2147483648 ≤ (3 + x1) - 13 ∧ (3 + x1) - 13 < 2147483648) ∧ (K (F x0 3)).1 = 20 ∧ ((0 : Int) ≤ (3 + x1) - 13 ∧ (3 + x1) - 13 < ((K (F x0 3)).2 : Int)) ∧ Q (some (0, E (F x0 3) ((3 + x1) - 13))) (n, K, F, E)))) : PW l G 1 mX12_count bg 193 [(0, (2, x0)), (1, (0, x1))] [] (n, K, F, E) Q := by
  refine s_iload_n (q := 194) 72 1 rfl rfl ?_
  refine s_i2l (q := 195) 73 rfl ?_
  refine s_ldc2 (q := 198) (x := 13) 74 rfl kX12_628 ?_
  refine s_ldc2 (q := 201) (x := 15) 75 rfl kX12_630 ?_
  refine n_callS (N := mX12_in) (as := [(1, x1), (1, 13), (1, 15)]) (st := []) (q := 204) (d' := 0) 76 rfl uX12_in kX12_197 rfl (pX12_in ?_)
  show PW l G 1 mX12_count bg 204 [(0, (2, x0)), (1, (0, x1))] [(0, bI (13 ≤ x1 ∧ x1 ≤ 15))] (n, K, F, E) Q
  refine s_if_eq (q := 207) (tgt := 221) 77 rfl rfl (fun hb => ?_) (fun hb => ?_)
  · have hb := bI_f hb
    have b1 := hb
    replace h := h.1 hb
    refine s_iconst (q := 222) 87 rfl ?_
    exact s_iret 88 rfl rfl h
  · have hb := bI_t hb
    have b1 := hb
    replace h := h.2 hb
    refine s_aload_n (q := 208) 78 0 rfl rfl ?_
    obtain ⟨c2, h⟩ := h
    refine n_getf (q := 211) (jj := 3) 79 12 3 rfl kX12_13 c2 ?_
    refine s_iconst (q := 212) 80 rfl ?_
    refine s_iload_n (q := 213) 81 1 rfl rfl ?_
    obtain ⟨c3, h⟩ := h
    refine n_iadd (q := 214) 82 rfl c3 ?_
    refine s_bipush (q := 216) 83 rfl ?_
    obtain ⟨c4, h⟩ := h
    refine n_isub (q := 217) 84 rfl c4 ?_
    obtain ⟨c5, h⟩ := h
    obtain ⟨c6, h⟩ := h
    refine n_iald (q := 218) 85 rfl c5 c6 ?_
    refine s_goto (tgt := 222) 86 rfl rfl ?_
    exact s_iret 88 rfl rfl h
theorem vX12_status_0 {l : Launch} {G : pG} {bg : Nat × Nat} {n : Nat} {K : Int → Nat × Nat} {F E : Int → Int → Int} {Q : Option pV → pM → Prop} (x0 : Int) (h : (K x0).1 = 12 ∧ (∀ F1, F1 = pUp F x0 0 0 → Q (some (0, F x0 1)) (n, K, F1, E))) : PW l G 0 mX12_status bg 0 [(0, (2, x0))] [] (n, K, F, E) Q := by
  refine s_aload_n (q := 1) 0 0 rfl rfl ?_
  refine s_iconst (q := 2) 1 rfl ?_
  obtain ⟨c1, h⟩ := h
  refine n_putf (q := 5) (jj := 0) 2 12 0 rfl kX12_174 c1 (Or.inl rfl) ?_
  refine PW.nameF (fun F1 eF1 => ?_)
  replace h := h F1 eF1
  refine s_aload_n (q := 6) 3 0 rfl rfl ?_
  refine n_getf (q := 9) (jj := 1) 4 12 1 rfl kX12_177 c1 ?_
  refine PW.top (b := F x0 1) (by exact (congrFun (congrFun eF1 _) _).trans (pUp_k (by decide))) ?_
  exact s_iret 5 rfl rfl h
