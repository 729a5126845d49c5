theorem vX12_reckonAll_0 {l : Launch} {G : pG} {bg : Nat × Nat} {n : Nat} {K : Int → Nat × Nat} {F E : Int → Int → Int} {Q : Option pV → pM → Prop} (x0 x1 x2 : Int) (h : (K x0).1 = 12 ∧ (∀ F1, F1 = pUp F x0 38 0 → PW l G 2 mX12_reckonAll bg 10 [(0, (2, x0)), (2, (0, x2)), (3, (0, 0)), (4, (0, x1))] [] (n, K, F1, E) Q)) : PW l G 2 mX12_reckonAll bg 0 [(0, (2, x0)), (1, (0, x1)), (2, (0, x2))] [] (n, K, F, E) Q := by
  refine s_aload_n (q := 1) 0 0 rfl rfl ?_
  refine s_iconst (q := 2) 1 rfl ?_
  obtain ⟨c1, h⟩ := h
  refine n_putf (q := 5) (jj := 38) 2 12 38 rfl kX12_403 c1 (Or.inr (Or.inr (Or.inl ⟨rfl, (by decide)⟩))) ?_
  refine PW.nameF (fun F1 eF1 => ?_)
  replace h := h F1 eF1
  refine s_iconst (q := 6) 3 rfl ?_
  refine s_istore_n (q := 7) (lv' := [(3, (0, 0)), (0, (2, x0)), (1, (0, x1)), (2, (0, x2))]) 4 rfl rfl ?_
  refine s_iload_n (q := 8) 5 2 rfl rfl ?_
  refine s_istore (q := 10) (lv' := [(4, (0, x1)), (3, (0, 0)), (0, (2, x0)), (1, (0, x1)), (2, (0, x2))]) 6 rfl rfl ?_
  refine PW.pick [2, 4, 1, 0] rfl ?_
  exact h
theorem vX12_reckonAll_10 {l : Launch} {G : pG} {bg : Nat × Nat} {n : Nat} {K : Int → Nat × Nat} {F E : Int → Int → Int} {Q : Option pV → pM → Prop} (x0 x2 x3 x4 : Int) (h : ((x2 ≤ x4 → ((x3 ≤ 0 → (K x0).1 = 12 ∧ (∀ F1, F1 = pUp F x0 39 0 → Q none (n, K, F1, E))) ∧ (¬ (x3 ≤ 0) → (K x0).1 = 12 ∧ (0 : Int) ≤ F x0 37 ∧ (K (F x0 37)).1 = 21 ∧ ((0 : Int) ≤ 0 ∧ 0 < ((K (F x0 37)).2 : Int)) ∧ (∀ F2, F2 = pUp F x0 39 (E (F x0 37) 0) → Q none (n, K, F2, E))))) ∧ (¬ (x2 ≤ x4) → (K x0).1 = 12 ∧ ((¬ (F x0 38) = 0 → ((x3 ≤ 0 → (∀ F3, F3 = pUp F x0 39 0 → Q none (n, K, F3, E))) ∧ (¬ (x3 ≤ 0) → (0 : Int) ≤ F x0 37 ∧ (K (F x0 37)).1 = 21 ∧ ((0 : Int) ≤ 0 ∧ 0 < ((K (F x0 37)).2 : Int)) ∧ (∀ F4, F4 = pUp F x0 39 (E (F x0 37) 0) → Q none (n, K, F4, E))))) ∧ ((F x0 38) = 0 → ((F x0 20 = 0 → (-2147483648 ≤ (F x0 34) + 98 ∧ (F x0 34) + 98 < 2147483648) ∧ (-2147483648 ≤ 2 * x4 ∧ 2 * x4 < 2147483648) ∧ (-2147483648 ≤ ((F x0 34) + 98) + (2 * x4) ∧ ((F x0 34) + 98) + (2 * x4) < 2147483648) ∧ (K (F x0 3)).1 = 20 ∧ ((0 : Int) ≤ ((F x0 34) + 98) + (2 * x4) ∧ ((F x0 34) + 98) + (2 * x4) < ((K (F x0 3)).2 : Int)) ∧ PW l G 2 mX12_reckonAll bg 57 [(0, (2, x0)), (2, (0, x2)), (3, (0, x3)), (4, (0, x4))] [(0, E (F x0 3) (((F x0 34) + 98) + (2 * x4)))] (n, K, F, E) Q) ∧ (¬ (F x0 20 = 0) → (K (F x0 24)).1 = 20 ∧ ((0 : Int) ≤ x4 ∧ x4 < ((K (F x0 24)).2 : Int)) ∧ PW l G 2 mX12_reckonAll bg 57 [(0, (2, x0)), (2, (0, x2)), (3, (0, x3)), (4, (0, x4))] [(0, E (F x0 24) x4)] (n, K, F, E) Q))))))) : PW l G 2 mX12_reckonAll bg 10 [(0, (2, x0)), (2, (0, x2)), (3, (0, x3)), (4, (0, x4))] [] (n, K, F, E) Q := by
  refine s_iload (q := 12) 7 3 rfl rfl ?_
  refine s_iload_n (q := 13) 8 1 rfl rfl ?_
  refine s_icmp_ge (q := 16) (tgt := 355) 9 rfl rfl (fun hb => ?_) (fun hb => ?_)
  · skip
    have b1 := hb
    replace h := h.1 hb
    refine s_aload_n (q := 356) 190 0 rfl rfl ?_
    refine s_iload_n (q := 357) 191 2 rfl rfl ?_
    refine s_if_le (q := 360) (tgt := 369) 192 rfl rfl (fun hb => ?_) (fun hb => ?_)
    · skip
      have b2 := hb
      replace h := h.1 hb
      refine s_lconst (q := 370) (x := 0) 198 rfl ?_
      obtain ⟨c3, h⟩ := h
      refine n_putf (q := 373) (jj := 39) 199 12 39 rfl kX12_419 c3 (Or.inr (Or.inl rfl)) ?_
      refine PW.nameF (fun F1 eF1 => ?_)
      replace h := h F1 eF1
      exact s_vret 200 rfl rfl h
    · skip
      have b2 := hb
      replace h := h.2 hb
      refine s_aload_n (q := 361) 193 0 rfl rfl ?_
      obtain ⟨c4, h⟩ := h
      refine n_getf (q := 364) (jj := 37) 194 12 37 rfl kX12_103 c4 ?_
      refine s_iconst (q := 365) 195 rfl ?_
      obtain ⟨c5, h⟩ := h
      obtain ⟨c6, h⟩ := h
      obtain ⟨c7, h⟩ := h
      refine n_lald (q := 366) 196 rfl c5 c6 c7 ?_
      refine s_goto (tgt := 370) 197 rfl rfl ?_
      refine n_putf (q := 373) (jj := 39) 199 12 39 rfl kX12_419 c4 (Or.inr (Or.inl rfl)) ?_
      refine PW.nameF (fun F2 eF2 => ?_)
      replace h := h F2 eF2
      exact s_vret 200 rfl rfl h
  · skip
    have b1 := hb
    replace h := h.2 hb
    refine s_aload_n (q := 17) 10 0 rfl rfl ?_
    obtain ⟨c8, h⟩ := h
    refine n_getf (q := 20) (jj := 38) 11 12 38 rfl kX12_403 c8 ?_
    refine s_if_ne (q := 23) (tgt := 355) 12 rfl rfl (fun hb => ?_) (fun hb => ?_)
    · skip
      have b9 := hb
      replace h := h.1 hb
      refine s_aload_n (q := 356) 190 0 rfl rfl ?_
      refine s_iload_n (q := 357) 191 2 rfl rfl ?_
      refine s_if_le (q := 360) (tgt := 369) 192 rfl rfl (fun hb => ?_) (fun hb => ?_)
      · skip
        have b10 := hb
        replace h := h.1 hb
        refine s_lconst (q := 370) (x := 0) 198 rfl ?_
        refine n_putf (q := 373) (jj := 39) 199 12 39 rfl kX12_419 c8 (Or.inr (Or.inl rfl)) ?_
        refine PW.nameF (fun F3 eF3 => ?_)
        replace h := h F3 eF3
        exact s_vret 200 rfl rfl h
      · skip
        have b10 := hb
        replace h := h.2 hb
        refine s_aload_n (q := 361) 193 0 rfl rfl ?_
        refine n_getf (q := 364) (jj := 37) 194 12 37 rfl kX12_103 c8 ?_
        refine s_iconst (q := 365) 195 rfl ?_
        obtain ⟨c11, h⟩ := h
        obtain ⟨c12, h⟩ := h
        obtain ⟨c13, h⟩ := h
        refine n_lald (q := 366) 196 rfl c11 c12 c13 ?_
        refine s_goto (tgt := 370) 197 rfl rfl ?_
        refine n_putf (q := 373) (jj := 39) 199 12 39 rfl kX12_419 c8 (Or.inr (Or.inl rfl)) ?_
        refine PW.nameF (fun F4 eF4 => ?_)
        replace h := h F4 eF4
        exact s_vret 200 rfl rfl h
    · have hb := Classical.not_not.mp hb
      have b9 := hb
      replace h := h.2 hb
      refine s_aload_n (q := 24) 13 0 rfl rfl ?_
      refine n_getf (q := 27) (jj := 20) 14 12 20 rfl kX12_329 c8 ?_
      refine s_if_eq (q := 30) (tgt := 40) 15 rfl rfl (fun hb => ?_) (fun hb => ?_)
      · skip
        have b14 := hb
        replace h := h.1 hb
        refine s_aload_n (q := 41) 21 0 rfl rfl ?_
        refine n_getf (q := 44) (jj := 3) 22 12 3 rfl kX12_13 c8 ?_
        refine s_aload_n (q := 45) 23 0 rfl rfl ?_
        refine n_getf (q := 48) (jj := 34) 24 12 34 rfl kX12_406 c8 ?_
        refine s_bipush (q := 50) 25 rfl ?_
        obtain ⟨c15, h⟩ := h
        refine n_iadd (q := 51) 26 rfl c15 ?_
        refine s_iconst (q := 52) 27 rfl ?_
        refine s_iload (q := 54) 28 3 rfl rfl ?_
        obtain ⟨c16, h⟩ := h
        refine n_imul (q := 55) 29 rfl c16 ?_
        obtain ⟨c17, h⟩ := h
        refine n_iadd (q := 56) 30 rfl c17 ?_
        obtain ⟨c18, h⟩ := h
        obtain ⟨c19, h⟩ := h
        refine n_iald (q := 57) 31 rfl c18 c19 ?_
        refine PW.pick [0, 1, 2, 3] rfl ?_
        exact h
      · skip
        have b14 := hb
        replace h := h.2 hb
        refine s_aload_n (q := 31) 16 0 rfl rfl ?_
        refine n_getf (q := 34) (jj := 24) 17 12 24 rfl kX12_45 c8 ?_
        refine s_iload (q := 36) 18 3 rfl rfl ?_
        obtain ⟨c20, h⟩ := h
        obtain ⟨c21, h⟩ := h
        refine n_iald (q := 37) 19 rfl c20 c21 ?_
        refine s_goto (tgt := 57) 20 rfl rfl ?_
        refine PW.pick [0, 1, 2, 3] rfl ?_
        exact h
theorem vX12_reckonAll_57 {l : Launch} {G : pG} {bg : Nat × Nat} {n : Nat} {K : Int → Nat × Nat} {F E : Int → Int → Int} {Q : Option pV → pM → Prop} (x0 x2 x3 x4 s0 : Int) (h : (K x0).1 = 12 ∧ ((F x0 20 = 0 → (-2147483648 ≤ (F x0 34) + 98 ∧ (F x0 34) + 98 < 2147483648) ∧ (-2147483648 ≤ 2 * x4 ∧ 2 * x4 < 2147483648) ∧ (-2147483648 ≤ ((F x0 34) + 98) + (2 * x4) ∧ ((F x0 34) + 98) + (2 * x4) < 2147483648) ∧ (-2147483648 ≤ (((F x0 34) + 98) + (2 * x4)) + 1 ∧ (((F x0 34) + 98) + (2 * x4)) + 1 < 2147483648) ∧ (K (F x0 3)).1 = 20 ∧ ((0 : Int) ≤ (((F x0 34) + 98) + (2 * x4)) + 1 ∧ (((F x0 34) + 98) + (2 * x4)) + 1 < ((K (F x0 3)).2 : Int)) ∧ (∀ a1, a1 = E (F x0 3) ((((F x0 34) + 98) + (2 * x4)) + 1) → PW l G 2 mX12_reckonAll bg 95 [(0, (2, x0)), (2, (0, x2)), (3, (0, x3)), (4, (0, x4)), (5, (0, s0))] [(0, a1)] (n, K, F, E) Q)) ∧ (¬ (F x0 20 = 0) → (K (F x0 25)).1 = 20 ∧ ((0 : Int) ≤ x4 ∧ x4 < ((K (F x0 25)).2 : Int)) ∧ PW l G 2 mX12_reckonAll bg 95 [(0, (2, x0)), (2, (0, x2)), (3, (0, x3)), (4, (0, x4)), (5, (0, s0))] [(0, E (F x0 25) x4)] (n, K, F, E) Q))) : PW l G 2 mX12_reckonAll bg 57 [(0, (2, x0)), (2, (0, x2)), (3, (0, x3)), (4, (0, x4))] [(0, s0)] (n, K, F, E) Q := by
  refine s_istore (q := 59) (lv' := [(5, (0, s0)), (0, (2, x0)), (2, (0, x2)), (3, (0, x3)), (4, (0, x4))]) 32 rfl rfl ?_
  refine s_aload_n (q := 60) 33 1 rfl rfl ?_
  obtain ⟨c1, h⟩ := h
  refine n_getf (q := 63) (jj := 20) 34 12 20 rfl kX12_329 c1 ?_
  refine s_if_eq (q := 66) (tgt := 76) 35 rfl rfl (fun hb => ?_) (fun hb => ?_)
  · skip
    have b2 := hb
    replace h := h.1 hb
    refine s_aload_n (q := 77) 41 1 rfl rfl ?_
    refine n_getf (q := 80) (jj := 3) 42 12 3 rfl kX12_13 c1 ?_
    refine s_aload_n (q := 81) 43 1 rfl rfl ?_
    refine n_getf (q := 84) (jj := 34) 44 12 34 rfl kX12_406 c1 ?_
    refine s_bipush (q := 86) 45 rfl ?_
    obtain ⟨c3, h⟩ := h
    refine n_iadd (q := 87) 46 rfl c3 ?_
    refine s_iconst (q := 88) 47 rfl ?_
    refine s_iload (q := 90) 48 4 rfl rfl ?_
    obtain ⟨c4, h⟩ := h
    refine n_imul (q := 91) 49 rfl c4 ?_
    obtain ⟨c5, h⟩ := h
    refine n_iadd (q := 92) 50 rfl c5 ?_
    refine s_iconst (q := 93) 51 rfl ?_
    obtain ⟨c6, h⟩ := h
    refine n_iadd (q := 94) 52 rfl c6 ?_
    obtain ⟨c7, h⟩ := h
    obtain ⟨c8, h⟩ := h
    refine n_iald (q := 95) 53 rfl c7 c8 ?_
    refine PW.name (fun a1 ea1 => ?_)
    replace h := h a1 ea1
    refine PW.pick [1, 2, 3, 4, 0] rfl ?_
    exact h
  · skip
    have b2 := hb
    replace h := h.2 hb
    refine s_aload_n (q := 67) 36 1 rfl rfl ?_
    refine n_getf (q := 70) (jj := 25) 37 12 25 rfl kX12_48 c1 ?_
    refine s_iload (q := 72) 38 4 rfl rfl ?_
    obtain ⟨c9, h⟩ := h
    obtain ⟨c10, h⟩ := h
    refine n_iald (q := 73) 39 rfl c9 c10 ?_
    refine s_goto (tgt := 95) 40 rfl rfl ?_
    refine PW.pick [1, 2, 3, 4, 0] rfl ?_
    exact h
theorem vX12_reckonAll_95 {l : Launch} {G : pG} {bg : Nat × Nat} {n : Nat} {K : Int → Nat × Nat} {F E : Int → Int → Int} {Q : Option pV → pM → Prop} (x0 x2 x3 x4 x5 s0 : Int) (h : (-2147483648 ≤ x4 + 1 ∧ x4 + 1 < 2147483648) ∧ ((20 ≤ x5 → ((28 ≤ x5 → ((¬ x5 = 28 → (K x0).1 = 12 ∧ (-2147483648 ≤ x3 - 1 ∧ x3 - 1 < 2147483648) ∧ (0 : Int) ≤ F x0 37 ∧ (K (F x0 37)).1 = 21 ∧ ((0 : Int) ≤ x3 - 1 ∧ x3 - 1 < ((K (F x0 37)).2 : Int)) ∧ ((¬ x5 = 29 → ((¬ (E (F x0 37) (x3 - 1)) = 1 → (-2147483648 ≤ x3 + (-1) ∧ x3 + (-1) < 2147483648) ∧ PW l G 2 mX12_reckonAll bg 10 [(0, (2, x0)), (2, (0, x2)), (3, (0, x3 + (-1))), (4, (0, x4 + 1))] [] (n, K, F, E) Q) ∧ ((E (F x0 37) (x3 - 1)) = 1 → PW l G 2 mX12_reckonAll bg 10 [(0, (2, x0)), (2, (0, x2)), (3, (0, x3)), (4, (0, s0))] [] (n, K, F, E) Q))) ∧ (x5 = 29 → ((¬ (E (F x0 37) (x3 - 1)) = 0 → (-2147483648 ≤ x3 + (-1) ∧ x3 + (-1) < 2147483648) ∧ PW l G 2 mX12_reckonAll bg 10 [(0, (2, x0)), (2, (0, x2)), (3, (0, x3 + (-1))), (4, (0, x4 + 1))] [] (n, K, F, E) Q) ∧ ((E (F x0 37) (x3 - 1)) = 0 → PW l G 2 mX12_reckonAll bg 10 [(0, (2, x0)), (2, (0, x2)), (3, (0, x3)), (4, (0, s0))] [] (n, K, F, E) Q))))) ∧ (x5 = 28 → (K x0).1 = 12 ∧ (-2147483648 ≤ x3 - 1 ∧ x3 - 1 < 2147483648) ∧ (0 : Int) ≤ F x0 37 ∧ (K (F x0 37)).1 = 21 ∧ ((0 : Int) ≤ x3 - 1 ∧ x3 - 1 < ((K (F x0 37)).2 : Int)) ∧ (-9223372036854775808 ≤ 1 - (E (F x0 37) (x3 - 1)) ∧ 1 - (E (F x0 37) (x3 - 1)) < 9223372036854775808) ∧ (∀ E1, E1 = pUp E (F x0 37) (x3 - 1) (1 - (E (F x0 37) (x3 - 1))) → PW l G 2 mX12_reckonAll bg 10 [(0, (2, x0)), (2, (0, x2)), (3, (0, x3)), (4, (0, x4 + 1))] [] (n, K, F, E1) Q)))) ∧ (¬ (28 ≤ x5) → (-2147483648 ≤ x3 + (-1) ∧ x3 + (-1) < 2147483648) ∧ (K x0).1 = 12 ∧ (-2147483648 ≤ (x3 + (-1)) - 1 ∧ (x3 + (-1)) - 1 < 2147483648) ∧ (0 : Int) ≤ F x0 37 ∧ (K (F x0 37)).1 = 21 ∧ ((0 : Int) ≤ (x3 + (-1)) - 1 ∧ (x3 + (-1)) - 1 < ((K (F x0 37)).2 : Int)) ∧ ((0 : Int) ≤ x3 + (-1) ∧ x3 + (-1) < ((K (F x0 37)).2 : Int)) ∧ PC l G 0 mX12_reckon (0, 0) [(2, x0), (0, x5), (1, E (F x0 37) ((x3 + (-1)) - 1)), (1, E (F x0 37) (x3 + (-1)))] (n, K, F, E) (fun r μ => PW l G 2 mX12_reckonAll bg 250 [(0, (2, x0)), (2, (0, x2)), (3, (0, x3 + (-1))), (4, (0, x4 + 1))] (r.toList ++ [(0, (x3 + (-1)) - 1), (2, F x0 37)]) μ Q)))) ∧ (¬ (20 ≤ x5) → (K x0).1 = 12 ∧ ((¬ x5 = 0 → ((¬ (F x0 20) = 0 → ((6 ≤ x5 → ((¬ x5 = 6 → (K (F x0 3)).1 = 20 ∧ ((0 : Int) ≤ 6 ∧ 6 < ((K (F x0 3)).2 : Int)) ∧ (-9223372036854775808 ≤ (E (F x0 3) 6) - 1 ∧ (E (F x0 3) 6) - 1 < 9223372036854775808) ∧ ((¬ (0 ≤ s0 ∧ s0 ≤ (E (F x0 3) 6) - 1) → PW l G 2 mX12_reckonAll bg 206 [(0, (2, x0)), (2, (0, x2)), (3, (0, x3)), (4, (0, x4 + 1))] [(1, (-1000)), (0, x3), (2, F x0 37)] (n, K, F, E) Q) ∧ (0 ≤ s0 ∧ s0 ≤ (E (F x0 3) 6) - 1 → (-2147483648 ≤ 6 * s0 ∧ 6 * s0 < 2147483648) ∧ (-2147483648 ≤ 18 + (6 * s0) ∧ 18 + (6 * s0) < 2147483648) ∧ (-2147483648 ≤ (18 + (6 * s0)) + 5 ∧ (18 + (6 * s0)) + 5 < 2147483648) ∧ ((0 : Int) ≤ (18 + (6 * s0)) + 5 ∧ (18 + (6 * s0)) + 5 < ((K (F x0 3)).2 : Int)) ∧ PW l G 2 mX12_reckonAll bg 206 [(0, (2, x0)), (2, (0, x2)), (3, (0, x3)), (4, (0, x4 + 1))] [(1, E (F x0 3) ((18 + (6 * s0)) + 5)), (0, x3), (2, F x0 37)] (n, K, F, E) Q))) ∧ (x5 = 6 → (-2147483648 ≤ 15 + s0 ∧ 15 + s0 < 2147483648) ∧ (K (F x0 3)).1 = 20 ∧ ((0 : Int) ≤ 15 + s0 ∧ 15 + s0 < ((K (F x0 3)).2 : Int)) ∧ PW l G 2 mX12_reckonAll bg 206 [(0, (2, x0)), (2, (0, x2)), (3, (0, x3)), (4, (0, x4 + 1))] [(1, E (F x0 3) (15 + s0)), (0, x3), (2, F x0 37)] (n, K, F, E) Q))) ∧ (¬ (6 ≤ x5) → (0 : Int) ≤ F x0 36 ∧ (K (F x0 36)).1 = 21 ∧ ((0 : Int) ≤ x5 ∧ x5 < ((K (F x0 36)).2 : Int)) ∧ PW l G 2 mX12_reckonAll bg 206 [(0, (2, x0)), (2, (0, x2)), (3, (0, x3)), (4, (0, x4 + 1))] [(1, E (F x0 36) x5), (0, x3), (2, F x0 37)] (n, K, F, E) Q))) ∧ ((F x0 20) = 0 → (0 : Int) ≤ F x0 35 ∧ (K (F x0 35)).1 = 21 ∧ ((0 : Int) ≤ x5 ∧ x5 < ((K (F x0 35)).2 : Int)) ∧ PW l G 2 mX12_reckonAll bg 206 [(0, (2, x0)), (2, (0, x2)), (3, (0, x3)), (4, (0, x4 + 1))] [(1, E (F x0 35) x5), (0, x3), (2, F x0 37)] (n, K, F, E) Q))) ∧ (x5 = 0 → PW l G 2 mX12_reckonAll bg 206 [(0, (2, x0)), (2, (0, x2)), (3, (0, x3)), (4, (0, x4 + 1))] [(1, s0), (0, x3), (2, F x0 37)] (n, K, F, E) Q))))) : PW l G 2 mX12_reckonAll bg 95 [(0, (2, x0)), (2, (0, x2)), (3, (0, x3)), (4, (0, x4)), (5, (0, x5))] [(0, s0)] (n, K, F, E) Q := by
  refine s_istore (q := 97) (lv' := [(6, (0, s0)), (0, (2, x0)), (2, (0, x2)), (3, (0, x3)), (4, (0, x4)), (5, (0, x5))]) 54 rfl rfl ?_
  obtain ⟨c1, h⟩ := h
  refine n_iinc (q := 100) (lv' := [(4, (0, x4 + 1)), (6, (0, s0)), (0, (2, x0)), (2, (0, x2)), (3, (0, x3)), (5, (0, x5))]) 55 4 rfl rfl c1 rfl ?_
  refine s_iload (q := 102) 56 5 rfl rfl ?_
  refine s_bipush (q := 104) 57 rfl ?_
  refine s_icmp_ge (q := 107) (tgt := 213) 58 rfl rfl (fun hb => ?_) (fun hb => ?_)
  · skip
    have b2 := hb
    replace h := h.1 hb
    refine s_iload (q := 215) 111 5 rfl rfl ?_
    refine s_bipush (q := 217) 112 rfl ?_
    refine s_icmp_ge (q := 220) (tgt := 290) 113 rfl rfl (fun hb => ?_) (fun hb => ?_)
    · skip
      have b3 := hb
      replace h := h.1 hb
      refine s_iload (q := 292) 153 5 rfl rfl ?_
      refine s_bipush (q := 294) 154 rfl ?_
      refine s_icmp_ne (q := 297) (tgt := 318) 155 rfl rfl (fun hb => ?_) (fun hb => ?_)
      · skip
        have b4 := hb
        replace h := h.1 hb
        refine s_aload_n (q := 319) 171 2 rfl rfl ?_
        obtain ⟨c5, h⟩ := h
        refine n_getf (q := 322) (jj := 37) 172 12 37 rfl kX12_103 c5 ?_
        refine s_iload_n (q := 323) 173 4 rfl rfl ?_
        refine s_iconst (q := 324) 174 rfl ?_
        obtain ⟨c6, h⟩ := h
        refine n_isub (q := 325) 175 rfl c6 ?_
        obtain ⟨c7, h⟩ := h
        obtain ⟨c8, h⟩ := h
        obtain ⟨c9, h⟩ := h
        refine n_lald (q := 326) 176 rfl c7 c8 c9 ?_
        refine s_iload (q := 328) 177 5 rfl rfl ?_
        refine s_bipush (q := 330) 178 rfl ?_
        refine s_icmp_ne (q := 333) (tgt := 337) 179 rfl rfl (fun hb => ?_) (fun hb => ?_)
        · skip
          have b10 := hb
          replace h := h.1 hb
          refine s_lconst (q := 338) (x := 1) 182 rfl ?_
          refine s_lcmp (q := 339) 183 rfl ?_
          refine s_if_ne (q := 342) (tgt := 349) 184 rfl rfl (fun hb => ?_) (fun hb => ?_)
          · have hb := mt lCmp_eq.mpr hb
            have b11 := hb
            replace h := h.1 hb
            obtain ⟨c12, h⟩ := h
            refine n_iinc (q := 352) (lv' := [(3, (0, x3 + (-1))), (4, (0, x4 + 1)), (6, (0, s0)), (0, (2, x0)), (2, (0, x2)), (5, (0, x5))]) 188 4 rfl rfl c12 rfl ?_
            refine s_goto (tgt := 10) 189 rfl rfl ?_
            refine PW.pick [3, 4, 0, 1] rfl ?_
            exact h
          · have hb := lCmp_eq.mp (Classical.not_not.mp hb)
            have b11 := hb
            replace h := h.2 hb
            refine s_iload (q := 344) 185 1 rfl rfl ?_
            refine s_istore (q := 346) (lv' := [(4, (0, s0)), (6, (0, s0)), (0, (2, x0)), (2, (0, x2)), (3, (0, x3)), (5, (0, x5))]) 186 rfl rfl ?_
            refine s_goto (tgt := 352) 187 rfl rfl ?_
            refine s_goto (tgt := 10) 189 rfl rfl ?_
            refine PW.pick [2, 3, 4, 0] rfl ?_
            exact h
        · have hb := Classical.not_not.mp hb
          have b10 := hb
          replace h := h.2 hb
          refine s_lconst (q := 334) (x := 0) 180 rfl ?_
          refine s_goto (tgt := 338) 181 rfl rfl ?_
          refine s_lcmp (q := 339) 183 rfl ?_
          refine s_if_ne (q := 342) (tgt := 349) 184 rfl rfl (fun hb => ?_) (fun hb => ?_)
          · have hb := mt lCmp_eq.mpr hb
            have b13 := hb
            replace h := h.1 hb
            obtain ⟨c14, h⟩ := h
            refine n_iinc (q := 352) (lv' := [(3, (0, x3 + (-1))), (4, (0, x4 + 1)), (6, (0, s0)), (0, (2, x0)), (2, (0, x2)), (5, (0, x5))]) 188 4 rfl rfl c14 rfl ?_
            refine s_goto (tgt := 10) 189 rfl rfl ?_
            refine PW.pick [3, 4, 0, 1] rfl ?_
            exact h
          · have hb := lCmp_eq.mp (Classical.not_not.mp hb)
            have b13 := hb
            replace h := h.2 hb
            refine s_iload (q := 344) 185 1 rfl rfl ?_
            refine s_istore (q := 346) (lv' := [(4, (0, s0)), (6, (0, s0)), (0, (2, x0)), (2, (0, x2)), (3, (0, x3)), (5, (0, x5))]) 186 rfl rfl ?_
            refine s_goto (tgt := 352) 187 rfl rfl ?_
            refine s_goto (tgt := 10) 189 rfl rfl ?_
            refine PW.pick [2, 3, 4, 0] rfl ?_
            exact h
      · have hb := Classical.not_not.mp hb
        have b4 := hb
        replace h := h.2 hb
        refine s_aload_n (q := 298) 156 2 rfl rfl ?_
        obtain ⟨c15, h⟩ := h
        refine n_getf (q := 301) (jj := 37) 157 12 37 rfl kX12_103 c15 ?_
        refine s_iload_n (q := 302) 158 4 rfl rfl ?_
        refine s_iconst (q := 303) 159 rfl ?_
        obtain ⟨c16, h⟩ := h
        refine n_isub (q := 304) 160 rfl c16 ?_
        refine s_lconst (q := 305) (x := 1) 161 rfl ?_
        refine s_aload_n (q := 306) 162 2 rfl rfl ?_
        refine n_getf (q := 309) (jj := 37) 163 12 37 rfl kX12_103 c15 ?_
        refine s_iload_n (q := 310) 164 4 rfl rfl ?_
        refine s_iconst (q := 311) 165 rfl ?_
        refine n_isub (q := 312) 166 rfl c16 ?_
        obtain ⟨c17, h⟩ := h
        obtain ⟨c18, h⟩ := h
        obtain ⟨c19, h⟩ := h
        refine n_lald (q := 313) 167 rfl c17 c18 c19 ?_
        obtain ⟨c20, h⟩ := h
        refine n_lsub (q := 314) 168 rfl c20 ?_
        refine n_last (q := 315) 169 rfl c17 c18 c19 ?_
        refine PW.nameE (fun E1 eE1 => ?_)
        replace h := h E1 eE1
        refine s_goto (tgt := 352) 170 rfl rfl ?_
        refine s_goto (tgt := 10) 189 rfl rfl ?_
        refine PW.pick [2, 3, 4, 0] rfl ?_
        exact h
    · skip
      have b3 := hb
      replace h := h.2 hb
      obtain ⟨c21, h⟩ := h
      refine n_iinc (q := 223) (lv' := [(3, (0, x3 + (-1))), (4, (0, x4 + 1)), (6, (0, s0)), (0, (2, x0)), (2, (0, x2)), (5, (0, x5))]) 114 4 rfl rfl c21 rfl ?_
      refine s_aload_n (q := 224) 115 3 rfl rfl ?_
      obtain ⟨c22, h⟩ := h
      refine n_getf (q := 227) (jj := 37) 116 12 37 rfl kX12_103 c22 ?_
      refine s_iload_n (q := 228) 117 0 rfl rfl ?_
      refine s_iconst (q := 229) 118 rfl ?_
      obtain ⟨c23, h⟩ := h
      refine n_isub (q := 230) 119 rfl c23 ?_
      refine s_aload_n (q := 231) 120 3 rfl rfl ?_
      refine s_iload (q := 233) 121 5 rfl rfl ?_
      refine s_aload_n (q := 234) 122 3 rfl rfl ?_
      refine n_getf (q := 237) (jj := 37) 123 12 37 rfl kX12_103 c22 ?_
      refine s_iload_n (q := 238) 124 0 rfl rfl ?_
      refine s_iconst (q := 239) 125 rfl ?_
      refine n_isub (q := 240) 126 rfl c23 ?_
      obtain ⟨c24, h⟩ := h
      obtain ⟨c25, h⟩ := h
      obtain ⟨c26, h⟩ := h
      refine n_lald (q := 241) 127 rfl c24 c25 c26 ?_
      refine s_aload_n (q := 242) 128 3 rfl rfl ?_
      refine n_getf (q := 245) (jj := 37) 129 12 37 rfl kX12_103 c22 ?_
      refine s_iload_n (q := 246) 130 0 rfl rfl ?_
      obtain ⟨c27, h⟩ := h
      refine n_lald (q := 247) 131 rfl c24 c25 c27 ?_
      refine PW.pick [3, 4, 0, 1] rfl ?_
      exact n_callV (N := mX12_reckon) (as := [(0, x5), (1, E (F x0 37) ((x3 + (-1)) - 1)), (1, E (F x0 37) (x3 + (-1)))]) (st := [(0, (x3 + (-1)) - 1), (2, F x0 37)]) (q := 250) (d' := 0) 132 rfl uX12_reckon kX12_411 rfl c22 h
  · skip
    have b2 := hb
    replace h := h.2 hb
    refine s_aload_n (q := 108) 59 2 rfl rfl ?_
    obtain ⟨c28, h⟩ := h
    refine n_getf (q := 111) (jj := 37) 60 12 37 rfl kX12_103 c28 ?_
    refine s_iload_n (q := 112) 61 4 rfl rfl ?_
    refine s_iload (q := 114) 62 5 rfl rfl ?_
    refine s_if_ne (q := 117) (tgt := 123) 63 rfl rfl (fun hb => ?_) (fun hb => ?_)
    · skip
      have b29 := hb
      replace h := h.1 hb
      refine s_aload_n (q := 124) 67 2 rfl rfl ?_
      refine n_getf (q := 127) (jj := 20) 68 12 20 rfl kX12_329 c28 ?_
      refine s_if_ne (q := 130) (tgt := 140) 69 rfl rfl (fun hb => ?_) (fun hb => ?_)
      · skip
        have b30 := hb
        replace h := h.1 hb
        refine s_iload (q := 142) 75 5 rfl rfl ?_
        refine s_bipush (q := 144) 76 rfl ?_
        refine s_icmp_ge (q := 147) (tgt := 157) 77 rfl rfl (fun hb => ?_) (fun hb => ?_)
        · skip
          have b31 := hb
          replace h := h.1 hb
          refine s_iload (q := 159) 83 5 rfl rfl ?_
          refine s_bipush (q := 161) 84 rfl ?_
          refine s_icmp_ne (q := 164) (tgt := 178) 85 rfl rfl (fun hb => ?_) (fun hb => ?_)
          · skip
            have b32 := hb
            replace h := h.1 hb
            refine s_aload_n (q := 179) 94 2 rfl rfl ?_
            refine s_iload (q := 181) 95 1 rfl rfl ?_
            obtain ⟨c33, h⟩ := h
            obtain ⟨c34, h⟩ := h
            obtain ⟨c35, h⟩ := h
            refine n_callV (N := mX12_isOperator) (as := [(0, s0)]) (st := [(0, x3), (2, F x0 37)]) (q := 184) (d' := 1) 96 rfl uX12_isOperator kX12_220 rfl c28 (pX12_isOperator c28 c33 c34 c35 ?_)
            show PW l G 2 mX12_reckonAll bg 184 [(4, (0, x4 + 1)), (6, (0, s0)), (0, (2, x0)), (2, (0, x2)), (3, (0, x3)), (5, (0, x5))] [(0, bI (0 ≤ s0 ∧ s0 ≤ (E (F x0 3) 6) - 1)), (0, x3), (2, F x0 37)] (n, K, F, E) Q
            refine s_if_eq (q := 187) (tgt := 203) 97 rfl rfl (fun hb => ?_) (fun hb => ?_)
            · have hb := bI_f hb
              have b36 := hb
              replace h := h.1 hb
              refine s_ldc2 (q := 206) (x := (-1000)) 107 rfl kX12_409 ?_
              refine PW.pick [2, 3, 4, 0] rfl ?_
              exact h
            · have hb := bI_t hb
              have b36 := hb
              replace h := h.2 hb
              refine s_aload_n (q := 188) 98 2 rfl rfl ?_
              refine n_getf (q := 191) (jj := 3) 99 12 3 rfl kX12_13 c28 ?_
              refine s_iload (q := 193) 100 1 rfl rfl ?_
              refine n_callS (N := mX12_operatorAt) (as := [(0, s0)]) (st := [(2, F x0 3), (0, x3), (2, F x0 37)]) (q := 196) (d' := 0) 101 rfl uX12_operatorAt kX12_210 rfl ?_
              show PW l G 0 mX12_operatorAt (0, 0) 0 [(0, (0, s0))] [] (n, K, F, E) _
              refine s_bipush (q := 2) 0 rfl ?_
              refine s_bipush (q := 4) 1 rfl ?_
              refine s_iload_n (q := 5) 2 0 rfl rfl ?_
              obtain ⟨c37, h⟩ := h
              refine n_imul (q := 6) 3 rfl c37 ?_
              obtain ⟨c38, h⟩ := h
              refine n_iadd (q := 7) 4 rfl c38 ?_
              refine s_iret 5 rfl rfl ?_
              show PW l G 2 mX12_reckonAll bg 196 [(4, (0, x4 + 1)), (6, (0, s0)), (0, (2, x0)), (2, (0, x2)), (3, (0, x3)), (5, (0, x5))] [(0, 18 + (6 * s0)), (2, F x0 3), (0, x3), (2, F x0 37)] (n, K, F, E) Q
              refine s_iconst (q := 197) 102 rfl ?_
              obtain ⟨c39, h⟩ := h
              refine n_iadd (q := 198) 103 rfl c39 ?_
              obtain ⟨c40, h⟩ := h
              refine n_iald (q := 199) 104 rfl c33 c40 ?_
              refine s_i2l (q := 200) 105 rfl ?_
              refine s_goto (tgt := 206) 106 rfl rfl ?_
              refine PW.pick [2, 3, 4, 0] rfl ?_
              exact h
          · have hb := Classical.not_not.mp hb
            have b32 := hb
            replace h := h.2 hb
            refine s_aload_n (q := 165) 86 2 rfl rfl ?_
            refine n_getf (q := 168) (jj := 3) 87 12 3 rfl kX12_13 c28 ?_
            refine s_bipush (q := 170) 88 rfl ?_
            refine s_iload (q := 172) 89 1 rfl rfl ?_
            obtain ⟨c41, h⟩ := h
            refine n_iadd (q := 173) 90 rfl c41 ?_
            obtain ⟨c42, h⟩ := h
            obtain ⟨c43, h⟩ := h
            refine n_iald (q := 174) 91 rfl c42 c43 ?_
            refine s_i2l (q := 175) 92 rfl ?_
            refine s_goto (tgt := 206) 93 rfl rfl ?_
            refine PW.pick [2, 3, 4, 0] rfl ?_
            exact h
        · skip
          have b31 := hb
          replace h := h.2 hb
          refine s_aload_n (q := 148) 78 2 rfl rfl ?_
          refine n_getf (q := 151) (jj := 36) 79 12 36 rfl kX12_100 c28 ?_
          refine s_iload (q := 153) 80 5 rfl rfl ?_
          obtain ⟨c44, h⟩ := h
          obtain ⟨c45, h⟩ := h
          obtain ⟨c46, h⟩ := h
          refine n_lald (q := 154) 81 rfl c44 c45 c46 ?_
          refine s_goto (tgt := 206) 82 rfl rfl ?_
          refine PW.pick [2, 3, 4, 0] rfl ?_
          exact h
      · have hb := Classical.not_not.mp hb
        have b30 := hb
        replace h := h.2 hb
        refine s_aload_n (q := 131) 70 2 rfl rfl ?_
        refine n_getf (q := 134) (jj := 35) 71 12 35 rfl kX12_97 c28 ?_
        refine s_iload (q := 136) 72 5 rfl rfl ?_
        obtain ⟨c47, h⟩ := h
        obtain ⟨c48, h⟩ := h
        obtain ⟨c49, h⟩ := h
        refine n_lald (q := 137) 73 rfl c47 c48 c49 ?_
        refine s_goto (tgt := 206) 74 rfl rfl ?_
        refine PW.pick [2, 3, 4, 0] rfl ?_
        exact h
    · have hb := Classical.not_not.mp hb
      have b29 := hb
      replace h := h.2 hb
      refine s_iload (q := 119) 64 1 rfl rfl ?_
      refine s_i2l (q := 120) 65 rfl ?_
      refine s_goto (tgt := 206) 66 rfl rfl ?_
      refine PW.pick [2, 3, 4, 0] rfl ?_
      exact h
theorem vX12_reckonAll_206 {l : Launch} {G : pG} {bg : Nat × Nat} {n : Nat} {K : Int → Nat × Nat} {F E : Int → Int → Int} {Q : Option pV → pM → Prop} (x0 x2 x3 x4 s0 s1 s2 : Int) (h : (0 : Int) ≤ s2 ∧ (K s2).1 = 21 ∧ ((0 : Int) ≤ s1 ∧ s1 < ((K s2).2 : Int)) ∧ (∀ E1, E1 = pUp E s2 s1 s0 → (-2147483648 ≤ x3 + 1 ∧ x3 + 1 < 2147483648) ∧ PW l G 2 mX12_reckonAll bg 10 [(0, (2, x0)), (2, (0, x2)), (3, (0, x3 + 1)), (4, (0, x4))] [] (n, K, F, E1) Q)) : PW l G 2 mX12_reckonAll bg 206 [(0, (2, x0)), (2, (0, x2)), (3, (0, x3)), (4, (0, x4))] [(1, s0), (0, s1), (2, s2)] (n, K, F, E) Q := by
  obtain ⟨c1, h⟩ := h
  obtain ⟨c2, h⟩ := h
  obtain ⟨c3, h⟩ := h
  refine n_last (q := 207) 108 rfl c1 c2 c3 ?_
  refine PW.nameE (fun E1 eE1 => ?_)
  replace h := h E1 eE1
  obtain ⟨c4, h⟩ := h
  refine n_iinc (q := 210) (lv' := [(3, (0, x3 + 1)), (0, (2, x0)), (2, (0, x2)), (4, (0, x4))]) 109 2 rfl rfl c4 rfl ?_
  refine s_goto (tgt := 352) 110 rfl rfl ?_
  refine s_goto (tgt := 10) 189 rfl rfl ?_
  refine PW.pick [1, 2, 0, 3] rfl ?_
  exact h
theorem vX12_reckonAll_250 {l : Launch} {G : pG} {bg : Nat × Nat} {n : Nat} {K : Int → Nat × Nat} {F E : Int → Int → Int} {Q : Option pV → pM → Prop} (x0 x2 x3 x4 s0 s1 s2 : Int) (h : (0 : Int) ≤ s2 ∧ (K s2).1 = 21 ∧ ((0 : Int) ≤ s1 ∧ s1 < ((K s2).2 : Int)) ∧ (∀ E1, E1 = pUp E s2 s1 s0 → (K x0).1 = 12 ∧ ((¬ (F x0 38) = 0 → (∀ F2, F2 = pUp F x0 38 1 → PW l G 2 mX12_reckonAll bg 10 [(0, (2, x0)), (2, (0, x2)), (3, (0, x3)), (4, (0, x4))] [] (n, K, F2, E1) Q)) ∧ ((F x0 38) = 0 → (-2147483648 ≤ x3 - 1 ∧ x3 - 1 < 2147483648) ∧ (0 : Int) ≤ F x0 37 ∧ (K (F x0 37)).1 = 21 ∧ ((0 : Int) ≤ x3 - 1 ∧ x3 - 1 < ((K (F x0 37)).2 : Int)) ∧ (((-1000000000) ≤ E1 (F x0 37) (x3 - 1) ∧ E1 (F x0 37) (x3 - 1) ≤ 1000000000 → (∀ F3, F3 = pUp F x0 38 0 → PW l G 2 mX12_reckonAll bg 10 [(0, (2, x0)), (2, (0, x2)), (3, (0, x3)), (4, (0, x4))] [] (n, K, F3, E1) Q)) ∧ (¬ ((-1000000000) ≤ E1 (F x0 37) (x3 - 1) ∧ E1 (F x0 37) (x3 - 1) ≤ 1000000000) → (∀ F4, F4 = pUp F x0 38 1 → PW l G 2 mX12_reckonAll bg 10 [(0, (2, x0)), (2, (0, x2)), (3, (0, x3)), (4, (0, x4))] [] (n, K, F4, E1) Q))))))) : PW l G 2 mX12_reckonAll bg 250 [(0, (2, x0)), (2, (0, x2)), (3, (0, x3)), (4, (0, x4))] [(1, s0), (0, s1), (2, s2)] (n, K, F, E) Q := by
  obtain ⟨c1, h⟩ := h
  obtain ⟨c2, h⟩ := h
  obtain ⟨c3, h⟩ := h
  refine n_last (q := 251) 133 rfl c1 c2 c3 ?_
  refine PW.nameE (fun E1 eE1 => ?_)
  replace h := h E1 eE1
  refine s_aload_n (q := 252) 134 0 rfl rfl ?_
  refine s_aload_n (q := 253) 135 0 rfl rfl ?_
  obtain ⟨c4, h⟩ := h
  refine n_getf (q := 256) (jj := 38) 136 12 38 rfl kX12_403 c4 ?_
  refine s_if_ne (q := 259) (tgt := 279) 137 rfl rfl (fun hb => ?_) (fun hb => ?_)
  · skip
    have b5 := hb
    replace h := h.1 hb
    refine s_iconst (q := 280) 148 rfl ?_
    refine s_goto (tgt := 284) 149 rfl rfl ?_
    refine n_putf (q := 287) (jj := 38) 151 12 38 rfl kX12_403 c4 (Or.inr (Or.inr (Or.inl ⟨rfl, (by decide)⟩))) ?_
    refine PW.nameF (fun F2 eF2 => ?_)
    replace h := h F2 eF2
    refine s_goto (tgt := 352) 152 rfl rfl ?_
    refine s_goto (tgt := 10) 189 rfl rfl ?_
    refine PW.pick [0, 1, 2, 3] rfl ?_
    exact h
  · have hb := Classical.not_not.mp hb
    have b5 := hb
    replace h := h.2 hb
    refine s_aload_n (q := 260) 138 0 rfl rfl ?_
    refine n_getf (q := 263) (jj := 37) 139 12 37 rfl kX12_103 c4 ?_
    refine s_iload_n (q := 264) 140 2 rfl rfl ?_
    refine s_iconst (q := 265) 141 rfl ?_
    obtain ⟨c6, h⟩ := h
    refine n_isub (q := 266) 142 rfl c6 ?_
    obtain ⟨c7, h⟩ := h
    obtain ⟨c8, h⟩ := h
    obtain ⟨c9, h⟩ := h
    refine n_lald (q := 267) 143 rfl c7 c8 c9 ?_
    refine s_ldc2 (q := 270) (x := (-1000000000)) 144 rfl kX12_415 ?_
    refine s_ldc2 (q := 273) (x := 1000000000) 145 rfl kX12_417 ?_
    refine n_callS (N := mX12_in) (as := [(1, E1 (F x0 37) (x3 - 1)), (1, (-1000000000)), (1, 1000000000)]) (st := [(2, x0)]) (q := 276) (d' := 0) 146 rfl uX12_in kX12_197 rfl (pX12_in ?_)
    show PW l G 2 mX12_reckonAll bg 276 [(0, (2, x0)), (2, (0, x2)), (3, (0, x3)), (4, (0, x4))] [(0, bI ((-1000000000) ≤ E1 (F x0 37) (x3 - 1) ∧ E1 (F x0 37) (x3 - 1) ≤ 1000000000)), (2, x0)] (n, K, F, E1) Q
    refine s_if_ne (q := 279) (tgt := 283) 147 rfl rfl (fun hb => ?_) (fun hb => ?_)
    · have hb := bI_t hb
      have b10 := hb
      replace h := h.1 hb
      refine s_iconst (q := 284) 150 rfl ?_
      refine n_putf (q := 287) (jj := 38) 151 12 38 rfl kX12_403 c4 (Or.inr (Or.inr (Or.inl ⟨rfl, (by decide)⟩))) ?_
      refine PW.nameF (fun F3 eF3 => ?_)
      replace h := h F3 eF3
      refine s_goto (tgt := 352) 152 rfl rfl ?_
      refine s_goto (tgt := 10) 189 rfl rfl ?_
      refine PW.pick [0, 1, 2, 3] rfl ?_
      exact h
    · have hb := bI_f2 hb
      have b10 := hb
      replace h := h.2 hb
      refine s_iconst (q := 280) 148 rfl ?_
      refine s_goto (tgt := 284) 149 rfl rfl ?_
      refine n_putf (q := 287) (jj := 38) 151 12 38 rfl kX12_403 c4 (Or.inr (Or.inr (Or.inl ⟨rfl, (by decide)⟩))) ?_
      refine PW.nameF (fun F4 eF4 => ?_)
      replace h := h F4 eF4
      refine s_goto (tgt := 352) 152 rfl rfl ?_
      refine s_goto (tgt := 10) 189 rfl rfl ?_
      refine PW.pick [0, 1, 2, 3] rfl ?_
      exact h
theorem vX12_isSo_0 {l : Launch} {G : pG} {bg : Nat × Nat} {n : Nat} {K : Int → Nat × Nat} {F E : Int → Int → Int} {Q : Option pV → pM → Prop} (x0 x1 : Int) (h : (K x0).1 = 12 ∧ (-2147483648 ≤ x1 + 5 ∧ x1 + 5 < 2147483648) ∧ (K (F x0 3)).1 = 20 ∧ ((0 : Int) ≤ x1 + 5 ∧ x1 + 5 < ((K (F x0 3)).2 : Int)) ∧ (-2147483648 ≤ x1 + 6 ∧ x1 + 6 < 2147483648) ∧ ((0 : Int) ≤ x1 + 6 ∧ x1 + 6 < ((K (F x0 3)).2 : Int)) ∧ ((E (F x0 3) (x1 + 6) ≤ E (F x0 3) (x1 + 5) → ((0 : Int) ≤ x1 ∧ x1 < ((K (F x0 3)).2 : Int)) ∧ ((¬ (E (F x0 3) x1) = 0 → Q (some (0, 1)) (n, K, F, E)) ∧ ((E (F x0 3) x1) = 0 → (-2147483648 ≤ x1 + 3 ∧ x1 + 3 < 2147483648) ∧ ((0 : Int) ≤ x1 + 3 ∧ x1 + 3 < ((K (F x0 3)).2 : Int)) ∧ (-2147483648 ≤ x1 + 4 ∧ x1 + 4 < 2147483648) ∧ ((0 : Int) ≤ x1 + 4 ∧ x1 + 4 < ((K (F x0 3)).2 : Int)) ∧ PC l G 2 mX12_reckonAll (0, 0) [(2, x0), (0, E (F x0 3) (x1 + 3)), (0, E (F x0 3) (x1 + 4))] (n, K, F, E) (fun r μ => PW l G 3 mX12_isSo bg 88 [(0, (2, x0))] (r.toList ++ []) μ Q)))) ∧ (¬ (E (F x0 3) (x1 + 6) ≤ E (F x0 3) (x1 + 5)) → PC l G 2 mX12_reckonAll (0, 0) [(2, x0), (0, E (F x0 3) (x1 + 5)), (0, E (F x0 3) (x1 + 6))] (n, K, F, E) (fun r μ => PW l G 3 mX12_isSo bg 41 [(0, (2, x0)), (1, (0, x1))] (r.toList ++ []) μ Q)))) : PW l G 3 mX12_isSo bg 0 [(0, (2, x0)), (1, (0, x1))] [] (n, K, F, E) Q := by
  refine s_aload_n (q := 1) 0 0 rfl rfl ?_
  obtain ⟨c1, h⟩ := h
  refine n_getf (q := 4) (jj := 3) 1 12 3 rfl kX12_13 c1 ?_
  refine s_iload_n (q := 5) 2 1 rfl rfl ?_
  refine s_iconst (q := 6) 3 rfl ?_
  obtain ⟨c2, h⟩ := h
  refine n_iadd (q := 7) 4 rfl c2 ?_
  obtain ⟨c3, h⟩ := h
  obtain ⟨c4, h⟩ := h
  refine n_iald (q := 8) 5 rfl c3 c4 ?_
  refine s_aload_n (q := 9) 6 0 rfl rfl ?_
  refine n_getf (q := 12) (jj := 3) 7 12 3 rfl kX12_13 c1 ?_
  refine s_iload_n (q := 13) 8 1 rfl rfl ?_
  refine s_bipush (q := 15) 9 rfl ?_
  obtain ⟨c5, h⟩ := h
  refine n_iadd (q := 16) 10 rfl c5 ?_
  obtain ⟨c6, h⟩ := h
  refine n_iald (q := 17) 11 rfl c3 c6 ?_
  refine s_icmp_ge (q := 20) (tgt := 59) 12 rfl rfl (fun hb => ?_) (fun hb => ?_)
  · skip
    have b7 := hb
    replace h := h.1 hb
    refine s_aload_n (q := 60) 37 0 rfl rfl ?_
    refine n_getf (q := 63) (jj := 3) 38 12 3 rfl kX12_13 c1 ?_
    refine s_iload_n (q := 64) 39 1 rfl rfl ?_
    obtain ⟨c8, h⟩ := h
    refine n_iald (q := 65) 40 rfl c3 c8 ?_
    refine s_if_ne (q := 68) (tgt := 109) 41 rfl rfl (fun hb => ?_) (fun hb => ?_)
    · skip
      have b9 := hb
      replace h := h.1 hb
      refine s_iconst (q := 110) 67 rfl ?_
      exact s_zret 68 rfl rfl (by decide) h
    · have hb := Classical.not_not.mp hb
      have b9 := hb
      replace h := h.2 hb
      refine s_aload_n (q := 69) 42 0 rfl rfl ?_
      refine s_aload_n (q := 70) 43 0 rfl rfl ?_
      refine n_getf (q := 73) (jj := 3) 44 12 3 rfl kX12_13 c1 ?_
      refine s_iload_n (q := 74) 45 1 rfl rfl ?_
      refine s_iconst (q := 75) 46 rfl ?_
      obtain ⟨c10, h⟩ := h
      refine n_iadd (q := 76) 47 rfl c10 ?_
      obtain ⟨c11, h⟩ := h
      refine n_iald (q := 77) 48 rfl c3 c11 ?_
      refine s_aload_n (q := 78) 49 0 rfl rfl ?_
      refine n_getf (q := 81) (jj := 3) 50 12 3 rfl kX12_13 c1 ?_
      refine s_iload_n (q := 82) 51 1 rfl rfl ?_
      refine s_iconst (q := 83) 52 rfl ?_
      obtain ⟨c12, h⟩ := h
      refine n_iadd (q := 84) 53 rfl c12 ?_
      obtain ⟨c13, h⟩ := h
      refine n_iald (q := 85) 54 rfl c3 c13 ?_
      refine PW.pick [0] rfl ?_
      exact n_callV (N := mX12_reckonAll) (as := [(0, E (F x0 3) (x1 + 3)), (0, E (F x0 3) (x1 + 4))]) (st := []) (q := 88) (d' := 2) 55 rfl uX12_reckonAll kX12_422 rfl c1 h
  · skip
    have b7 := hb
    replace h := h.2 hb
    refine s_aload_n (q := 21) 13 0 rfl rfl ?_
    refine s_aload_n (q := 22) 14 0 rfl rfl ?_
    refine n_getf (q := 25) (jj := 3) 15 12 3 rfl kX12_13 c1 ?_
    refine s_iload_n (q := 26) 16 1 rfl rfl ?_
    refine s_iconst (q := 27) 17 rfl ?_
    refine n_iadd (q := 28) 18 rfl c2 ?_
    refine n_iald (q := 29) 19 rfl c3 c4 ?_
    refine s_aload_n (q := 30) 20 0 rfl rfl ?_
    refine n_getf (q := 33) (jj := 3) 21 12 3 rfl kX12_13 c1 ?_
    refine s_iload_n (q := 34) 22 1 rfl rfl ?_
    refine s_bipush (q := 36) 23 rfl ?_
    refine n_iadd (q := 37) 24 rfl c5 ?_
    refine n_iald (q := 38) 25 rfl c3 c6 ?_
    refine PW.pick [0, 1] rfl ?_
    exact n_callV (N := mX12_reckonAll) (as := [(0, E (F x0 3) (x1 + 5)), (0, E (F x0 3) (x1 + 6))]) (st := []) (q := 41) (d' := 2) 26 rfl uX12_reckonAll kX12_422 rfl c1 h
theorem vX12_isSo_41 {l : Launch} {G : pG} {bg : Nat × Nat} {n : Nat} {K : Int → Nat × Nat} {F E : Int → Int → Int} {Q : Option pV → pM → Prop} (x0 x1 : Int) (h : (K x0).1 = 12 ∧ ((¬ (F x0 38) = 0 → Q (some (0, 0)) (n, K, F, E)) ∧ ((F x0 38) = 0 → ((¬ (F x0 39) = 0 → (K (F x0 3)).1 = 20 ∧ ((0 : Int) ≤ x1 ∧ x1 < ((K (F x0 3)).2 : Int)) ∧ ((¬ (E (F x0 3) x1) = 0 → Q (some (0, 1)) (n, K, F, E)) ∧ ((E (F x0 3) x1) = 0 → (-2147483648 ≤ x1 + 3 ∧ x1 + 3 < 2147483648) ∧ ((0 : Int) ≤ x1 + 3 ∧ x1 + 3 < ((K (F x0 3)).2 : Int)) ∧ (-2147483648 ≤ x1 + 4 ∧ x1 + 4 < 2147483648) ∧ ((0 : Int) ≤ x1 + 4 ∧ x1 + 4 < ((K (F x0 3)).2 : Int)) ∧ PC l G 2 mX12_reckonAll (0, 0) [(2, x0), (0, E (F x0 3) (x1 + 3)), (0, E (F x0 3) (x1 + 4))] (n, K, F, E) (fun r μ => PW l G 3 mX12_isSo bg 88 [(0, (2, x0))] (r.toList ++ []) μ Q)))) ∧ ((F x0 39) = 0 → Q (some (0, 0)) (n, K, F, E)))))) : PW l G 3 mX12_isSo bg 41 [(0, (2, x0)), (1, (0, x1))] [] (n, K, F, E) Q := by
  refine s_aload_n (q := 42) 27 0 rfl rfl ?_
  obtain ⟨c1, h⟩ := h
  refine n_getf (q := 45) (jj := 38) 28 12 38 rfl kX12_403 c1 ?_
  refine s_if_ne (q := 48) (tgt := 57) 29 rfl rfl (fun hb => ?_) (fun hb => ?_)
  · skip
    have b2 := hb
    replace h := h.1 hb
    refine s_iconst (q := 58) 35 rfl ?_
    exact s_zret 36 rfl rfl (by decide) h
  · have hb := Classical.not_not.mp hb
    have b2 := hb
    replace h := h.2 hb
    refine s_aload_n (q := 49) 30 0 rfl rfl ?_
    refine n_getf (q := 52) (jj := 39) 31 12 39 rfl kX12_419 c1 ?_
    refine s_lconst (q := 53) (x := 0) 32 rfl ?_
    refine s_lcmp (q := 54) 33 rfl ?_
    refine s_if_ne (q := 57) (tgt := 59) 34 rfl rfl (fun hb => ?_) (fun hb => ?_)
    · have hb := mt lCmp_eq.mpr hb
      have b3 := hb
      replace h := h.1 hb
      refine s_aload_n (q := 60) 37 0 rfl rfl ?_
      refine n_getf (q := 63) (jj := 3) 38 12 3 rfl kX12_13 c1 ?_
      refine s_iload_n (q := 64) 39 1 rfl rfl ?_
      obtain ⟨c4, h⟩ := h
      obtain ⟨c5, h⟩ := h
      refine n_iald (q := 65) 40 rfl c4 c5 ?_
      refine s_if_ne (q := 68) (tgt := 109) 41 rfl rfl (fun hb => ?_) (fun hb => ?_)
      · skip
        have b6 := hb
        replace h := h.1 hb
        refine s_iconst (q := 110) 67 rfl ?_
        exact s_zret 68 rfl rfl (by decide) h
      · have hb := Classical.not_not.mp hb
        have b6 := hb
        replace h := h.2 hb
        refine s_aload_n (q := 69) 42 0 rfl rfl ?_
        refine s_aload_n (q := 70) 43 0 rfl rfl ?_
        refine n_getf (q := 73) (jj := 3) 44 12 3 rfl kX12_13 c1 ?_
        refine s_iload_n (q := 74) 45 1 rfl rfl ?_
        refine s_iconst (q := 75) 46 rfl ?_
        obtain ⟨c7, h⟩ := h
        refine n_iadd (q := 76) 47 rfl c7 ?_
        obtain ⟨c8, h⟩ := h
        refine n_iald (q := 77) 48 rfl c4 c8 ?_
        refine s_aload_n (q := 78) 49 0 rfl rfl ?_
        refine n_getf (q := 81) (jj := 3) 50 12 3 rfl kX12_13 c1 ?_
        refine s_iload_n (q := 82) 51 1 rfl rfl ?_
        refine s_iconst (q := 83) 52 rfl ?_
        obtain ⟨c9, h⟩ := h
        refine n_iadd (q := 84) 53 rfl c9 ?_
        obtain ⟨c10, h⟩ := h
        refine n_iald (q := 85) 54 rfl c4 c10 ?_
        refine PW.pick [0] rfl ?_
        exact n_callV (N := mX12_reckonAll) (as := [(0, E (F x0 3) (x1 + 3)), (0, E (F x0 3) (x1 + 4))]) (st := []) (q := 88) (d' := 2) 55 rfl uX12_reckonAll kX12_422 rfl c1 h
    · have hb := lCmp_eq.mp (Classical.not_not.mp hb)
      have b3 := hb
      replace h := h.2 hb
      refine s_iconst (q := 58) 35 rfl ?_
      exact s_zret 36 rfl rfl (by decide) h
theorem vX12_isSo_88 {l : Launch} {G : pG} {bg : Nat × Nat} {n : Nat} {K : Int → Nat × Nat} {F E : Int → Int → Int} {Q : Option pV → pM → Prop} (x0 : Int) (h : (K x0).1 = 12 ∧ (∀ F1, F1 = pUp F x0 40 (F x0 39) → ((¬ (F x0 38) = 0 → Q (some (0, 0)) (n, K, F1, E)) ∧ ((F x0 38) = 0 → Q (some (0, 1)) (n, K, F1, E))))) : PW l G 3 mX12_isSo bg 88 [(0, (2, x0))] [] (n, K, F, E) Q := by
  refine s_aload_n (q := 89) 56 0 rfl rfl ?_
  refine s_aload_n (q := 90) 57 0 rfl rfl ?_
  obtain ⟨c1, h⟩ := h
  refine n_getf (q := 93) (jj := 39) 58 12 39 rfl kX12_419 c1 ?_
  refine n_putf (q := 96) (jj := 40) 59 12 40 rfl kX12_425 c1 (Or.inr (Or.inl rfl)) ?_
  refine PW.nameF (fun F1 eF1 => ?_)
  replace h := h F1 eF1
  refine s_aload_n (q := 97) 60 0 rfl rfl ?_
  refine n_getf (q := 100) (jj := 38) 61 12 38 rfl kX12_403 c1 ?_
  refine PW.top (b := F x0 38) (by exact (congrFun (congrFun eF1 _) _).trans (pUp_k (by decide))) ?_
  refine s_if_ne (q := 103) (tgt := 107) 62 rfl rfl (fun hb => ?_) (fun hb => ?_)
  · skip
    have b2 := hb
    replace h := h.1 hb
    refine s_iconst (q := 108) 65 rfl ?_
    exact s_zret 66 rfl rfl (by decide) h
  · have hb := Classical.not_not.mp hb
    have b2 := hb
    replace h := h.2 hb
    refine s_iconst (q := 104) 63 rfl ?_
    refine s_goto (tgt := 108) 64 rfl rfl ?_
    exact s_zret 66 rfl rfl (by decide) h
theorem vX12_tells_0 {l : Launch} {G : pG} {bg : Nat × Nat} {n : Nat} {K : Int → Nat × Nat} {F E : Int → Int → Int} {Q : Option pV → pM → Prop} (x0 x1 x2 x3 x4 x5 x6 : Int) (h : (K x0).1 = 12 ∧ (K (F x0 3)).1 = 20 ∧ ((0 : Int) ≤ 2 ∧ 2 < ((K (F x0 3)).2 : Int)) ∧ ((¬ (E (F x0 3) 2) = (-1) → (-2147483648 ≤ 900 * (E (F x0 3) 2) ∧ 900 * (E (F x0 3) 2) < 2147483648) ∧ (-2147483648 ≤ 135 + (900 * (E (F x0 3) 2)) ∧ 135 + (900 * (E (F x0 3) 2)) < 2147483648) ∧ (∀ F1, F1 = pUp F x0 34 (135 + (900 * (E (F x0 3) 2))) → (0 : Int) ≤ F x0 35 ∧ (K (F x0 35)).1 = 21 ∧ ((0 : Int) ≤ 1 ∧ 1 < ((K (F x0 35)).2 : Int)) ∧ (∀ E2, E2 = pUp E (F x0 35) 1 x2 → ((0 : Int) ≤ 5 ∧ 5 < ((K (F x0 35)).2 : Int)) ∧ (∀ E3, E3 = pUp E2 (F x0 35) 5 x3 → ((0 : Int) ≤ 6 ∧ 6 < ((K (F x0 35)).2 : Int)) ∧ (∀ E4, E4 = pUp E3 (F x0 35) 6 x4 → ((0 : Int) ≤ 7 ∧ 7 < ((K (F x0 35)).2 : Int)) ∧ (∀ E5, E5 = pUp E4 (F x0 35) 7 x5 → PW l G 4 mX12_tells bg 74 [(0, (2, x0)), (1, (0, x1)), (8, (1, x6)), (10, (0, 0))] [] (n, K, F1, E5) Q)))))) ∧ ((E (F x0 3) 2) = (-1) → Q (some (1, x6)) (n, K, F, E)))) : PW l G 4 mX12_tells bg 0 [(0, (2, x0)), (1, (0, x1)), (2, (0, x2)), (3, (0, x3)), (4, (0, x4)), (5, (0, x5)), (6, (1, x6))] [] (n, K, F, E) Q := by
  refine s_aload_n (q := 1) 0 0 rfl rfl ?_
  obtain ⟨c1, h⟩ := h
  refine n_getf (q := 4) (jj := 3) 1 12 3 rfl kX12_13 c1 ?_
  refine s_iconst (q := 5) 2 rfl ?_
  obtain ⟨c2, h⟩ := h
  obtain ⟨c3, h⟩ := h
  refine n_iald (q := 6) 3 rfl c2 c3 ?_
  refine s_iconst (q := 7) 4 rfl ?_
  refine s_icmp_ne (q := 10) (tgt := 13) 5 rfl rfl (fun hb => ?_) (fun hb => ?_)
  · skip
    have b4 := hb
    replace h := h.1 hb
    refine s_aload_n (q := 14) 8 0 rfl rfl ?_
    refine s_sipush (q := 17) 9 rfl ?_
    refine s_sipush (q := 20) 10 rfl ?_
    refine s_aload_n (q := 21) 11 0 rfl rfl ?_
    refine n_getf (q := 24) (jj := 3) 12 12 3 rfl kX12_13 c1 ?_
    refine s_iconst (q := 25) 13 rfl ?_
    refine n_iald (q := 26) 14 rfl c2 c3 ?_
    obtain ⟨c5, h⟩ := h
    refine n_imul (q := 27) 15 rfl c5 ?_
    obtain ⟨c6, h⟩ := h
    refine n_iadd (q := 28) 16 rfl c6 ?_
    refine n_putf (q := 31) (jj := 34) 17 12 34 rfl kX12_406 c1 (Or.inl rfl) ?_
    refine PW.nameF (fun F1 eF1 => ?_)
    replace h := h F1 eF1
    refine s_aload_n (q := 32) 18 0 rfl rfl ?_
    refine n_getf (q := 35) (jj := 35) 19 12 35 rfl kX12_97 c1 ?_
    refine PW.top (b := F x0 35) (by exact (congrFun (congrFun eF1 _) _).trans (pUp_k (by decide))) ?_
    refine s_iconst (q := 36) 20 rfl ?_
    refine s_iload_n (q := 37) 21 2 rfl rfl ?_
    refine s_i2l (q := 38) 22 rfl ?_
    obtain ⟨c7, h⟩ := h
    obtain ⟨c8, h⟩ := h
    obtain ⟨c9, h⟩ := h
    refine n_last (q := 39) 23 rfl c7 c8 c9 ?_
    refine PW.nameE (fun E2 eE2 => ?_)
    replace h := h E2 eE2
    refine s_aload_n (q := 40) 24 0 rfl rfl ?_
    refine n_getf (q := 43) (jj := 35) 25 12 35 rfl kX12_97 c1 ?_
    refine PW.top (b := F x0 35) (by exact (congrFun (congrFun eF1 _) _).trans (pUp_k (by decide))) ?_
    refine s_iconst (q := 44) 26 rfl ?_
    refine s_iload_n (q := 45) 27 3 rfl rfl ?_
    refine s_i2l (q := 46) 28 rfl ?_
    obtain ⟨c10, h⟩ := h
    refine n_last (q := 47) 29 rfl c7 c8 c10 ?_
    refine PW.nameE (fun E3 eE3 => ?_)
    replace h := h E3 eE3
    refine s_aload_n (q := 48) 30 0 rfl rfl ?_
    refine n_getf (q := 51) (jj := 35) 31 12 35 rfl kX12_97 c1 ?_
    refine PW.top (b := F x0 35) (by exact (congrFun (congrFun eF1 _) _).trans (pUp_k (by decide))) ?_
    refine s_bipush (q := 53) 32 rfl ?_
    refine s_iload (q := 55) 33 4 rfl rfl ?_
    refine s_i2l (q := 56) 34 rfl ?_
    obtain ⟨c11, h⟩ := h
    refine n_last (q := 57) 35 rfl c7 c8 c11 ?_
    refine PW.nameE (fun E4 eE4 => ?_)
    replace h := h E4 eE4
    refine s_aload_n (q := 58) 36 0 rfl rfl ?_
    refine n_getf (q := 61) (jj := 35) 37 12 35 rfl kX12_97 c1 ?_
    refine PW.top (b := F x0 35) (by exact (congrFun (congrFun eF1 _) _).trans (pUp_k (by decide))) ?_
    refine s_bipush (q := 63) 38 rfl ?_
    refine s_iload (q := 65) 39 5 rfl rfl ?_
    refine s_i2l (q := 66) 40 rfl ?_
    obtain ⟨c12, h⟩ := h
    refine n_last (q := 67) 41 rfl c7 c8 c12 ?_
    refine PW.nameE (fun E5 eE5 => ?_)
    replace h := h E5 eE5
    refine s_lload (q := 69) 42 6 rfl rfl ?_
    refine s_lstore (q := 71) (lv' := [(8, (1, x6)), (0, (2, x0)), (1, (0, x1)), (2, (0, x2)), (3, (0, x3)), (4, (0, x4)), (5, (0, x5)), (6, (1, x6))]) 43 rfl rfl ?_
    refine s_iconst (q := 72) 44 rfl ?_
    refine s_istore (q := 74) (lv' := [(10, (0, 0)), (8, (1, x6)), (0, (2, x0)), (1, (0, x1)), (2, (0, x2)), (3, (0, x3)), (4, (0, x4)), (5, (0, x5)), (6, (1, x6))]) 45 rfl rfl ?_
    refine PW.pick [2, 3, 1, 0] rfl ?_
    exact h
  · have hb := Classical.not_not.mp hb
    have b4 := hb
    replace h := h.2 hb
    refine s_lload (q := 12) 6 6 rfl rfl ?_
    exact s_lret 7 rfl rfl h
theorem vX12_tells_74 {l : Launch} {G : pG} {bg : Nat × Nat} {n : Nat} {K : Int → Nat × Nat} {F E : Int → Int → Int} {Q : Option pV → pM → Prop} (x0 x1 x8 x10 : Int) (h : (K x0).1 = 12 ∧ (-2147483648 ≤ (F x0 34) + 1 ∧ (F x0 34) + 1 < 2147483648) ∧ (K (F x0 3)).1 = 20 ∧ ((0 : Int) ≤ (F x0 34) + 1 ∧ (F x0 34) + 1 < ((K (F x0 3)).2 : Int)) ∧ ((E (F x0 3) ((F x0 34) + 1) ≤ x10 → Q (some (1, x8)) (n, K, F, E)) ∧ (¬ (E (F x0 3) ((F x0 34) + 1) ≤ x10) → (-2147483648 ≤ (F x0 34) + 2 ∧ (F x0 34) + 2 < 2147483648) ∧ (-2147483648 ≤ 8 * x10 ∧ 8 * x10 < 2147483648) ∧ (-2147483648 ≤ ((F x0 34) + 2) + (8 * x10) ∧ ((F x0 34) + 2) + (8 * x10) < 2147483648) ∧ ((0 : Int) ≤ ((F x0 34) + 2) + (8 * x10) ∧ ((F x0 34) + 2) + (8 * x10) < ((K (F x0 3)).2 : Int)) ∧ ((¬ (E (F x0 3) (((F x0 34) + 2) + (8 * x10))) = x1 → (-2147483648 ≤ x10 + 1 ∧ x10 + 1 < 2147483648) ∧ PW l G 4 mX12_tells bg 74 [(0, (2, x0)), (1, (0, x1)), (8, (1, x8)), (10, (0, x10 + 1))] [] (n, K, F, E) Q) ∧ ((E (F x0 3) (((F x0 34) + 2) + (8 * x10))) = x1 → PC l G 3 mX12_isSo (0, 0) [(2, x0), (0, ((F x0 34) + 2) + (8 * x10))] (n, K, F, E) (fun r μ => PW l G 4 mX12_tells bg 121 [(0, (2, x0)), (1, (0, x1)), (8, (1, x8)), (10, (0, x10))] (r.toList ++ []) μ Q)))))) : PW l G 4 mX12_tells bg 74 [(0, (2, x0)), (1, (0, x1)), (8, (1, x8)), (10, (0, x10))] [] (n, K, F, E) Q := by
  refine s_iload (q := 76) 46 3 rfl rfl ?_
  refine s_aload_n (q := 77) 47 0 rfl rfl ?_
  obtain ⟨c1, h⟩ := h
  refine n_getf (q := 80) (jj := 3) 48 12 3 rfl kX12_13 c1 ?_
  refine s_aload_n (q := 81) 49 0 rfl rfl ?_
  refine n_getf (q := 84) (jj := 34) 50 12 34 rfl kX12_406 c1 ?_
  refine s_iconst (q := 85) 51 rfl ?_
  obtain ⟨c2, h⟩ := h
  refine n_iadd (q := 86) 52 rfl c2 ?_
  obtain ⟨c3, h⟩ := h
  obtain ⟨c4, h⟩ := h
  refine n_iald (q := 87) 53 rfl c3 c4 ?_
  refine s_icmp_ge (q := 90) (tgt := 144) 54 rfl rfl (fun hb => ?_) (fun hb => ?_)
  · skip
    have b5 := hb
    replace h := h.1 hb
    refine s_lload (q := 146) 83 2 rfl rfl ?_
    exact s_lret 84 rfl rfl h
  · skip
    have b5 := hb
    replace h := h.2 hb
    refine s_aload_n (q := 91) 55 0 rfl rfl ?_
    refine n_getf (q := 94) (jj := 34) 56 12 34 rfl kX12_406 c1 ?_
    refine s_iconst (q := 95) 57 rfl ?_
    obtain ⟨c6, h⟩ := h
    refine n_iadd (q := 96) 58 rfl c6 ?_
    refine s_bipush (q := 98) 59 rfl ?_
    refine s_iload (q := 100) 60 3 rfl rfl ?_
    obtain ⟨c7, h⟩ := h
    refine n_imul (q := 101) 61 rfl c7 ?_
    obtain ⟨c8, h⟩ := h
    refine n_iadd (q := 102) 62 rfl c8 ?_
    refine s_istore (q := 104) (lv' := [(11, (0, ((F x0 34) + 2) + (8 * x10))), (0, (2, x0)), (1, (0, x1)), (8, (1, x8)), (10, (0, x10))]) 63 rfl rfl ?_
    refine s_aload_n (q := 105) 64 1 rfl rfl ?_
    refine n_getf (q := 108) (jj := 3) 65 12 3 rfl kX12_13 c1 ?_
    refine s_iload (q := 110) 66 0 rfl rfl ?_
    obtain ⟨c9, h⟩ := h
    refine n_iald (q := 111) 67 rfl c3 c9 ?_
    refine s_iload_n (q := 112) 68 2 rfl rfl ?_
    refine s_icmp_ne (q := 115) (tgt := 138) 69 rfl rfl (fun hb => ?_) (fun hb => ?_)
    · skip
      have b10 := hb
      replace h := h.1 hb
      obtain ⟨c11, h⟩ := h
      refine n_iinc (q := 141) (lv' := [(10, (0, x10 + 1)), (11, (0, ((F x0 34) + 2) + (8 * x10))), (0, (2, x0)), (1, (0, x1)), (8, (1, x8))]) 81 4 rfl rfl c11 rfl ?_
      refine s_goto (tgt := 74) 82 rfl rfl ?_
      refine PW.pick [2, 3, 4, 0] rfl ?_
      exact h
    · have hb := Classical.not_not.mp hb
      have b10 := hb
      replace h := h.2 hb
      refine s_aload_n (q := 116) 70 1 rfl rfl ?_
      refine s_iload (q := 118) 71 0 rfl rfl ?_
      refine PW.pick [1, 2, 3, 4] rfl ?_
      exact n_callV (N := mX12_isSo) (as := [(0, ((F x0 34) + 2) + (8 * x10))]) (st := []) (q := 121) (d' := 3) 72 rfl uX12_isSo kX12_428 rfl c1 h
theorem vX12_tells_121 {l : Launch} {G : pG} {bg : Nat × Nat} {n : Nat} {K : Int → Nat × Nat} {F E : Int → Int → Int} {Q : Option pV → pM → Prop} (x0 x1 x8 x10 s0 : Int) (h : ((s0 = 0 → (-2147483648 ≤ x10 + 1 ∧ x10 + 1 < 2147483648) ∧ PW l G 4 mX12_tells bg 74 [(0, (2, x0)), (1, (0, x1)), (8, (1, x8)), (10, (0, x10 + 1))] [] (n, K, F, E) Q) ∧ (¬ (s0 = 0) → ((¬ x1 = 0 → (-2147483648 ≤ x10 + 1 ∧ x10 + 1 < 2147483648) ∧ PW l G 4 mX12_tells bg 74 [(0, (2, x0)), (1, (0, x1)), (8, (1, 1)), (10, (0, x10 + 1))] [] (n, K, F, E) Q) ∧ (x1 = 0 → (K x0).1 = 12 ∧ (-2147483648 ≤ x10 + 1 ∧ x10 + 1 < 2147483648) ∧ PW l G 4 mX12_tells bg 74 [(0, (2, x0)), (1, (0, x1)), (8, (1, F x0 40)), (10, (0, x10 + 1))] [] (n, K, F, E) Q))))) : PW l G 4 mX12_tells bg 121 [(0, (2, x0)), (1, (0, x1)), (8, (1, x8)), (10, (0, x10))] [(0, s0)] (n, K, F, E) Q := by
  refine s_if_eq (q := 124) (tgt := 138) 73 rfl rfl (fun hb => ?_) (fun hb => ?_)
  · skip
    have b1 := hb
    replace h := h.1 hb
    obtain ⟨c2, h⟩ := h
    refine n_iinc (q := 141) (lv' := [(10, (0, x10 + 1)), (0, (2, x0)), (1, (0, x1)), (8, (1, x8))]) 81 3 rfl rfl c2 rfl ?_
    refine s_goto (tgt := 74) 82 rfl rfl ?_
    refine PW.pick [1, 2, 3, 0] rfl ?_
    exact h
  · skip
    have b1 := hb
    replace h := h.2 hb
    refine s_iload_n (q := 125) 74 1 rfl rfl ?_
    refine s_if_ne (q := 128) (tgt := 135) 75 rfl rfl (fun hb => ?_) (fun hb => ?_)
    · skip
      have b3 := hb
      replace h := h.1 hb
      refine s_lconst (q := 136) (x := 1) 79 rfl ?_
      refine s_lstore (q := 138) (lv' := [(8, (1, 1)), (0, (2, x0)), (1, (0, x1)), (10, (0, x10))]) 80 rfl rfl ?_
      obtain ⟨c4, h⟩ := h
      refine n_iinc (q := 141) (lv' := [(10, (0, x10 + 1)), (8, (1, 1)), (0, (2, x0)), (1, (0, x1))]) 81 3 rfl rfl c4 rfl ?_
      refine s_goto (tgt := 74) 82 rfl rfl ?_
      refine PW.pick [2, 3, 1, 0] rfl ?_
      exact h
    · have hb := Classical.not_not.mp hb
      have b3 := hb
      replace h := h.2 hb
      refine s_aload_n (q := 129) 76 0 rfl rfl ?_
      obtain ⟨c5, h⟩ := h
      refine n_getf (q := 132) (jj := 40) 77 12 40 rfl kX12_425 c5 ?_
      refine s_goto (tgt := 136) 78 rfl rfl ?_
      refine s_lstore (q := 138) (lv' := [(8, (1, F x0 40)), (0, (2, x0)), (1, (0, x1)), (10, (0, x10))]) 80 rfl rfl ?_
      obtain ⟨c6, h⟩ := h
      refine n_iinc (q := 141) (lv' := [(10, (0, x10 + 1)), (8, (1, F x0 40)), (0, (2, x0)), (1, (0, x1))]) 81 3 rfl rfl c6 rfl ?_
      refine s_goto (tgt := 74) 82 rfl rfl ?_
      refine PW.pick [2, 3, 1, 0] rfl ?_
      exact h
theorem vX12_isBarred_0 {l : Launch} {G : pG} {bg : Nat × Nat} {n : Nat} {K : Int → Nat × Nat} {F E : Int → Int → Int} {Q : Option pV → pM → Prop} (x0 x1 x2 x3 : Int) (h : (K x0).1 = 12 ∧ (0 : Int) ≤ F x0 35 ∧ (K (F x0 35)).1 = 21 ∧ ((0 : Int) ≤ 2 ∧ 2 < ((K (F x0 35)).2 : Int)) ∧ (∀ E1, E1 = pUp E (F x0 35) 2 x1 → ((0 : Int) ≤ 3 ∧ 3 < ((K (F x0 35)).2 : Int)) ∧ (∀ E2, E2 = pUp E1 (F x0 35) 3 x2 → ((0 : Int) ≤ 4 ∧ 4 < ((K (F x0 35)).2 : Int)) ∧ (∀ E3, E3 = pUp E2 (F x0 35) 4 x3 → (K (F x0 3)).1 = 20 ∧ ((0 : Int) ≤ 7 ∧ 7 < ((K (F x0 3)).2 : Int)) ∧ (-9223372036854775808 ≤ (E (F x0 3) 7) + 1 ∧ (E (F x0 3) 7) + 1 < 9223372036854775808) ∧ ((0 : Int) ≤ 8 ∧ 8 < ((K (F x0 35)).2 : Int)) ∧ (∀ E4, E4 = pUp E3 (F x0 35) 8 ((E (F x0 3) 7) + 1) → ((0 : Int) ≤ 5 ∧ 5 < ((K (F x0 3)).2 : Int)) ∧ ((0 : Int) ≤ 9 ∧ 9 < ((K (F x0 35)).2 : Int)) ∧ (∀ E5, E5 = pUp E4 (F x0 35) 9 (E (F x0 3) 5) → PC l G 4 mX12_tells (0, 0) [(2, x0), (0, 1), (0, (-1)), (0, (-1)), (0, (-1)), (0, (-1)), (1, 0)] (n, K, F, E5) (fun r μ => PW l G 5 mX12_isBarred bg 17 [] (r.toList ++ []) μ Q))))))) : PW l G 5 mX12_isBarred bg 0 [(0, (2, x0)), (1, (0, x1)), (2, (0, x2)), (3, (0, x3))] [] (n, K, F, E) Q := by
  refine s_aload_n (q := 1) 0 0 rfl rfl ?_
  refine s_iload_n (q := 2) 1 1 rfl rfl ?_
  refine s_iload_n (q := 3) 2 2 rfl rfl ?_
  refine s_iload_n (q := 4) 3 3 rfl rfl ?_
  obtain ⟨c1, h⟩ := h
  refine n_callV (N := mX12_setTuple) (as := [(0, x1), (0, x2), (0, x3)]) (st := []) (q := 7) (d' := 0) 4 rfl uX12_setTuple kX12_431 rfl c1 ?_
  show PW l G 0 mX12_setTuple (0, 0) 0 [(0, (2, x0)), (1, (0, x1)), (2, (0, x2)), (3, (0, x3))] [] (n, K, F, E) _
  refine s_aload_n (q := 1) 0 0 rfl rfl ?_
  refine n_getf (q := 4) (jj := 35) 1 12 35 rfl kX12_97 c1 ?_
  refine s_iconst (q := 5) 2 rfl ?_
  refine s_iload_n (q := 6) 3 1 rfl rfl ?_
  refine s_i2l (q := 7) 4 rfl ?_
  obtain ⟨c2, h⟩ := h
  obtain ⟨c3, h⟩ := h
  obtain ⟨c4, h⟩ := h
  refine n_last (q := 8) 5 rfl c2 c3 c4 ?_
  refine PW.nameE (fun E1 eE1 => ?_)
  replace h := h E1 eE1
  refine s_aload_n (q := 9) 6 0 rfl rfl ?_
  refine n_getf (q := 12) (jj := 35) 7 12 35 rfl kX12_97 c1 ?_
  refine s_iconst (q := 13) 8 rfl ?_
  refine s_iload_n (q := 14) 9 2 rfl rfl ?_
  refine s_i2l (q := 15) 10 rfl ?_
  obtain ⟨c5, h⟩ := h
  refine n_last (q := 16) 11 rfl c2 c3 c5 ?_
  refine PW.nameE (fun E2 eE2 => ?_)
  replace h := h E2 eE2
  refine s_aload_n (q := 17) 12 0 rfl rfl ?_
  refine n_getf (q := 20) (jj := 35) 13 12 35 rfl kX12_97 c1 ?_
  refine s_iconst (q := 21) 14 rfl ?_
  refine s_iload_n (q := 22) 15 3 rfl rfl ?_
  refine s_i2l (q := 23) 16 rfl ?_
  obtain ⟨c6, h⟩ := h
  refine n_last (q := 24) 17 rfl c2 c3 c6 ?_
  refine PW.nameE (fun E3 eE3 => ?_)
  replace h := h E3 eE3
  refine s_aload_n (q := 25) 18 0 rfl rfl ?_
  refine n_getf (q := 28) (jj := 35) 19 12 35 rfl kX12_97 c1 ?_
  refine s_bipush (q := 30) 20 rfl ?_
  refine s_aload_n (q := 31) 21 0 rfl rfl ?_
  refine n_getf (q := 34) (jj := 3) 22 12 3 rfl kX12_13 c1 ?_
  refine s_bipush (q := 36) 23 rfl ?_
  obtain ⟨c7, h⟩ := h
  obtain ⟨c8, h⟩ := h
  refine n_iald (q := 37) 24 rfl c7 c8 ?_
  refine PW.top (b := E (F x0 3) 7) (by refine (congrFun (congrFun eE3 _) _).trans ((pUp_K c3 c7 (by decide)).trans ?_); refine (congrFun (congrFun eE2 _) _).trans ((pUp_K c3 c7 (by decide)).trans ?_); exact (congrFun (congrFun eE1 _) _).trans (pUp_K c3 c7 (by decide))) ?_
  refine s_i2l (q := 38) 25 rfl ?_
  refine s_lconst (q := 39) (x := 1) 26 rfl ?_
  obtain ⟨c9, h⟩ := h
  refine n_ladd (q := 40) 27 rfl c9 ?_
  obtain ⟨c10, h⟩ := h
  refine n_last (q := 41) 28 rfl c2 c3 c10 ?_
  refine PW.nameE (fun E4 eE4 => ?_)
  replace h := h E4 eE4
  refine s_aload_n (q := 42) 29 0 rfl rfl ?_
  refine n_getf (q := 45) (jj := 35) 30 12 35 rfl kX12_97 c1 ?_
  refine s_bipush (q := 47) 31 rfl ?_
  refine s_aload_n (q := 48) 32 0 rfl rfl ?_
  refine n_getf (q := 51) (jj := 3) 33 12 3 rfl kX12_13 c1 ?_
  refine s_iconst (q := 52) 34 rfl ?_
  obtain ⟨c11, h⟩ := h
  refine n_iald (q := 53) 35 rfl c7 c11 ?_
  refine PW.top (b := E (F x0 3) 5) (by refine (congrFun (congrFun eE4 _) _).trans ((pUp_K c3 c7 (by decide)).trans ?_); refine (congrFun (congrFun eE3 _) _).trans ((pUp_K c3 c7 (by decide)).trans ?_); refine (congrFun (congrFun eE2 _) _).trans ((pUp_K c3 c7 (by decide)).trans ?_); exact (congrFun (congrFun eE1 _) _).trans (pUp_K c3 c7 (by decide))) ?_
  refine s_i2l (q := 54) 36 rfl ?_
  obtain ⟨c12, h⟩ := h
  refine n_last (q := 55) 37 rfl c2 c3 c12 ?_
  refine PW.nameE (fun E5 eE5 => ?_)
  replace h := h E5 eE5
  refine s_vret 38 rfl rfl ?_
  show PW l G 5 mX12_isBarred bg 7 [(0, (2, x0)), (1, (0, x1)), (2, (0, x2)), (3, (0, x3))] [] (n, K, F, E5) Q
  refine s_aload_n (q := 8) 5 0 rfl rfl ?_
  refine s_iconst (q := 9) 6 rfl ?_
  refine s_iconst (q := 10) 7 rfl ?_
  refine s_iconst (q := 11) 8 rfl ?_
  refine s_iconst (q := 12) 9 rfl ?_
  refine s_iconst (q := 13) 10 rfl ?_
  refine s_lconst (q := 14) (x := 0) 11 rfl ?_
  refine PW.pick [] rfl ?_
  exact n_callV (N := mX12_tells) (as := [(0, 1), (0, (-1)), (0, (-1)), (0, (-1)), (0, (-1)), (1, 0)]) (st := []) (q := 17) (d' := 4) 12 rfl uX12_tells kX12_435 rfl c1 h
theorem vX12_isBarred_17 {l : Launch} {G : pG} {bg : Nat × Nat} {n : Nat} {K : Int → Nat × Nat} {F E : Int → Int → Int} {Q : Option pV → pM → Prop} (s0 : Int) (h : ((¬ s0 = 1 → Q (some (0, 0)) (n, K, F, E)) ∧ (s0 = 1 → Q (some (0, 1)) (n, K, F, E)))) : PW l G 5 mX12_isBarred bg 17 [] [(1, s0)] (n, K, F, E) Q := by
  refine s_lconst (q := 18) (x := 1) 13 rfl ?_
  refine s_lcmp (q := 19) 14 rfl ?_
  refine s_if_ne (q := 22) (tgt := 26) 15 rfl rfl (fun hb => ?_) (fun hb => ?_)
  · have hb := mt lCmp_eq.mpr hb
    have b1 := hb
    replace h := h.1 hb
    refine s_iconst (q := 27) 18 rfl ?_
    exact s_zret 19 rfl rfl (by decide) h
  · have hb := lCmp_eq.mp (Classical.not_not.mp hb)
    have b1 := hb
    replace h := h.2 hb
    refine s_iconst (q := 23) 16 rfl ?_
    refine s_goto (tgt := 27) 17 rfl rfl ?_
    exact s_zret 19 rfl rfl (by decide) h
theorem vX12_fieldOf_0 {l : Launch} {G : pG} {bg : Nat × Nat} {n : Nat} {K : Int → Nat × Nat} {F E : Int → Int → Int} {Q : Option pV → pM → Prop} (x0 x1 x2 x3 : Int) (h : (K x0).1 = 12 ∧ (-2147483648 ≤ 3 * x1 ∧ 3 * x1 < 2147483648) ∧ (-2147483648 ≤ (3 * x1) + x2 ∧ (3 * x1) + x2 < 2147483648) ∧ (K (F x0 41)).1 = 20 ∧ ((0 : Int) ≤ (3 * x1) + x2 ∧ (3 * x1) + x2 < ((K (F x0 41)).2 : Int)) ∧ ((¬ x2 = F x0 47 → PW l G 1 mX12_fieldOf bg 42 [(0, (2, x0)), (2, (0, x2)), (3, (0, x3)), (4, (0, E (F x0 41) ((3 * x1) + x2))), (5, (0, (-1))), (6, (0, 0))] [] (n, K, F, E) Q) ∧ (x2 = F x0 47 → ((¬ (E (F x0 41) ((3 * x1) + x2)) = F x0 49 → PW l G 1 mX12_fieldOf bg 42 [(0, (2, x0)), (2, (0, x2)), (3, (0, x3)), (4, (0, E (F x0 41) ((3 * x1) + x2))), (5, (0, (-1))), (6, (0, 0))] [] (n, K, F, E) Q) ∧ ((E (F x0 41) ((3 * x1) + x2)) = F x0 49 → (K (F x0 48)).1 = 20 ∧ ((0 : Int) ≤ x3 ∧ x3 < ((K (F x0 48)).2 : Int)) ∧ Q (some (0, E (F x0 48) x3)) (n, K, F, E)))))) : PW l G 1 mX12_fieldOf bg 0 [(0, (2, x0)), (1, (0, x1)), (2, (0, x2)), (3, (0, x3))] [] (n, K, F, E) Q := by
  refine s_aload_n (q := 1) 0 0 rfl rfl ?_
  obtain ⟨c1, h⟩ := h
  refine n_getf (q := 4) (jj := 41) 1 12 41 rfl kX12_106 c1 ?_
  refine s_iconst (q := 5) 2 rfl ?_
  refine s_iload_n (q := 6) 3 1 rfl rfl ?_
  obtain ⟨c2, h⟩ := h
  refine n_imul (q := 7) 4 rfl c2 ?_
  refine s_iload_n (q := 8) 5 2 rfl rfl ?_
  obtain ⟨c3, h⟩ := h
  refine n_iadd (q := 9) 6 rfl c3 ?_
  obtain ⟨c4, h⟩ := h
  obtain ⟨c5, h⟩ := h
  refine n_iald (q := 10) 7 rfl c4 c5 ?_
  refine s_istore (q := 12) (lv' := [(4, (0, E (F x0 41) ((3 * x1) + x2))), (0, (2, x0)), (1, (0, x1)), (2, (0, x2)), (3, (0, x3))]) 8 rfl rfl ?_
  refine s_iload_n (q := 13) 9 3 rfl rfl ?_
  refine s_aload_n (q := 14) 10 1 rfl rfl ?_
  refine n_getf (q := 17) (jj := 47) 11 12 47 rfl kX12_439 c1 ?_
  refine s_icmp_ne (q := 20) (tgt := 36) 12 rfl rfl (fun hb => ?_) (fun hb => ?_)
  · skip
    have b6 := hb
    replace h := h.1 hb
    refine s_iconst (q := 37) 22 rfl ?_
    refine s_istore (q := 39) (lv' := [(5, (0, (-1))), (4, (0, E (F x0 41) ((3 * x1) + x2))), (0, (2, x0)), (1, (0, x1)), (2, (0, x2)), (3, (0, x3))]) 23 rfl rfl ?_
    refine s_iconst (q := 40) 24 rfl ?_
    refine s_istore (q := 42) (lv' := [(6, (0, 0)), (5, (0, (-1))), (4, (0, E (F x0 41) ((3 * x1) + x2))), (0, (2, x0)), (1, (0, x1)), (2, (0, x2)), (3, (0, x3))]) 25 rfl rfl ?_
    refine PW.pick [3, 5, 6, 2, 1, 0] rfl ?_
    exact h
  · have hb := Classical.not_not.mp hb
    have b6 := hb
    replace h := h.2 hb
    refine s_iload (q := 22) 13 0 rfl rfl ?_
    refine s_aload_n (q := 23) 14 1 rfl rfl ?_
    refine n_getf (q := 26) (jj := 49) 15 12 49 rfl kX12_442 c1 ?_
    refine s_icmp_ne (q := 29) (tgt := 36) 16 rfl rfl (fun hb => ?_) (fun hb => ?_)
    · skip
      have b7 := hb
      replace h := h.1 hb
      refine s_iconst (q := 37) 22 rfl ?_
      refine s_istore (q := 39) (lv' := [(5, (0, (-1))), (4, (0, E (F x0 41) ((3 * x1) + x2))), (0, (2, x0)), (1, (0, x1)), (2, (0, x2)), (3, (0, x3))]) 23 rfl rfl ?_
      refine s_iconst (q := 40) 24 rfl ?_
      refine s_istore (q := 42) (lv' := [(6, (0, 0)), (5, (0, (-1))), (4, (0, E (F x0 41) ((3 * x1) + x2))), (0, (2, x0)), (1, (0, x1)), (2, (0, x2)), (3, (0, x3))]) 25 rfl rfl ?_
      refine PW.pick [3, 5, 6, 2, 1, 0] rfl ?_
      exact h
    · have hb := Classical.not_not.mp hb
      have b7 := hb
      replace h := h.2 hb
      refine s_aload_n (q := 30) 17 1 rfl rfl ?_
      refine n_getf (q := 33) (jj := 48) 18 12 48 rfl kX12_124 c1 ?_
      refine s_iload_n (q := 34) 19 4 rfl rfl ?_
      obtain ⟨c8, h⟩ := h
      obtain ⟨c9, h⟩ := h
      refine n_iald (q := 35) 20 rfl c8 c9 ?_
      exact s_iret 21 rfl rfl h
theorem vX12_fieldOf_42 {l : Launch} {G : pG} {bg : Nat × Nat} {n : Nat} {K : Int → Nat × Nat} {F E : Int → Int → Int} {Q : Option pV → pM → Prop} (x0 x2 x3 x4 x5 x6 : Int) (h : (K x0).1 = 12 ∧ (-2147483648 ≤ 15 + x2 ∧ 15 + x2 < 2147483648) ∧ (K (F x0 3)).1 = 20 ∧ ((0 : Int) ≤ 15 + x2 ∧ 15 + x2 < ((K (F x0 3)).2 : Int)) ∧ ((E (F x0 3) (15 + x2) ≤ x6 → Q (some (0, x5)) (n, K, F, E)) ∧ (¬ (E (F x0 3) (15 + x2) ≤ x6) → (-2147483648 ≤ 27 * x2 ∧ 27 * x2 < 2147483648) ∧ (-2147483648 ≤ 42 + (27 * x2) ∧ 42 + (27 * x2) < 2147483648) ∧ (-2147483648 ≤ 3 * x6 ∧ 3 * x6 < 2147483648) ∧ (-2147483648 ≤ (42 + (27 * x2)) + (3 * x6) ∧ (42 + (27 * x2)) + (3 * x6) < 2147483648) ∧ (-2147483648 ≤ ((42 + (27 * x2)) + (3 * x6)) + 2 ∧ ((42 + (27 * x2)) + (3 * x6)) + 2 < 2147483648) ∧ ((0 : Int) ≤ ((42 + (27 * x2)) + (3 * x6)) + 2 ∧ ((42 + (27 * x2)) + (3 * x6)) + 2 < ((K (F x0 3)).2 : Int)) ∧ (∀ a1, a1 = E (F x0 3) (((42 + (27 * x2)) + (3 * x6)) + 2) → ((¬ a1 = x4 → (-2147483648 ≤ x6 + 1 ∧ x6 + 1 < 2147483648) ∧ PW l G 1 mX12_fieldOf bg 42 [(0, (2, x0)), (2, (0, x2)), (3, (0, x3)), (4, (0, x4)), (5, (0, x5)), (6, (0, x6 + 1))] [] (n, K, F, E) Q) ∧ (a1 = x4 → (-2147483648 ≤ ((42 + (27 * x2)) + (3 * x6)) + x3 ∧ ((42 + (27 * x2)) + (3 * x6)) + x3 < 2147483648) ∧ ((0 : Int) ≤ ((42 + (27 * x2)) + (3 * x6)) + x3 ∧ ((42 + (27 * x2)) + (3 * x6)) + x3 < ((K (F x0 3)).2 : Int)) ∧ (∀ a2, a2 = E (F x0 3) (((42 + (27 * x2)) + (3 * x6)) + x3) → (-2147483648 ≤ x6 + 1 ∧ x6 + 1 < 2147483648) ∧ PW l G 1 mX12_fieldOf bg 42 [(0, (2, x0)), (2, (0, x2)), (3, (0, x3)), (4, (0, x4)), (5, (0, a2)), (6, (0, x6 + 1))] [] (n, K, F, E) Q))))))) : PW l G 1 mX12_fieldOf bg 42 [(0, (2, x0)), (2, (0, x2)), (3, (0, x3)), (4, (0, x4)), (5, (0, x5)), (6, (0, x6))] [] (n, K, F, E) Q := by
  refine s_iload (q := 44) 26 5 rfl rfl ?_
  refine s_aload_n (q := 45) 27 0 rfl rfl ?_
  obtain ⟨c1, h⟩ := h
  refine n_getf (q := 48) (jj := 3) 28 12 3 rfl kX12_13 c1 ?_
  refine s_bipush (q := 50) 29 rfl ?_
  refine s_iload_n (q := 51) 30 1 rfl rfl ?_
  obtain ⟨c2, h⟩ := h
  refine n_iadd (q := 52) 31 rfl c2 ?_
  obtain ⟨c3, h⟩ := h
  obtain ⟨c4, h⟩ := h
  refine n_iald (q := 53) 32 rfl c3 c4 ?_
  refine s_icmp_ge (q := 56) (tgt := 100) 33 rfl rfl (fun hb => ?_) (fun hb => ?_)
  · skip
    have b5 := hb
    replace h := h.1 hb
    refine s_iload (q := 102) 57 4 rfl rfl ?_
    exact s_iret 58 rfl rfl h
  · skip
    have b5 := hb
    replace h := h.2 hb
    refine s_aload_n (q := 57) 34 0 rfl rfl ?_
    refine n_getf (q := 60) (jj := 3) 35 12 3 rfl kX12_13 c1 ?_
    refine s_iload_n (q := 61) 36 1 rfl rfl ?_
    refine s_iload (q := 63) 37 5 rfl rfl ?_
    refine n_callS (N := mX12_tupleAt) (as := [(0, x2), (0, x6)]) (st := [(2, F x0 3)]) (q := 66) (d' := 0) 38 rfl uX12_tupleAt kX12_225 rfl ?_
    show PW l G 0 mX12_tupleAt (0, 0) 0 [(0, (0, x2)), (1, (0, x6))] [] (n, K, F, E) _
    refine s_bipush (q := 2) 0 rfl ?_
    refine s_bipush (q := 4) 1 rfl ?_
    refine s_iload_n (q := 5) 2 0 rfl rfl ?_
    obtain ⟨c6, h⟩ := h
    refine n_imul (q := 6) 3 rfl c6 ?_
    obtain ⟨c7, h⟩ := h
    refine n_iadd (q := 7) 4 rfl c7 ?_
    refine s_iconst (q := 8) 5 rfl ?_
    refine s_iload_n (q := 9) 6 1 rfl rfl ?_
    obtain ⟨c8, h⟩ := h
    refine n_imul (q := 10) 7 rfl c8 ?_
    obtain ⟨c9, h⟩ := h
    refine n_iadd (q := 11) 8 rfl c9 ?_
    refine s_iret 9 rfl rfl ?_
    show PW l G 1 mX12_fieldOf bg 66 [(0, (2, x0)), (2, (0, x2)), (3, (0, x3)), (4, (0, x4)), (5, (0, x5)), (6, (0, x6))] [(0, (42 + (27 * x2)) + (3 * x6)), (2, F x0 3)] (n, K, F, E) Q
    refine s_iconst (q := 67) 39 rfl ?_
    obtain ⟨c10, h⟩ := h
    refine n_iadd (q := 68) 40 rfl c10 ?_
    obtain ⟨c11, h⟩ := h
    refine n_iald (q := 69) 41 rfl c3 c11 ?_
    refine PW.name (fun a1 ea1 => ?_)
    replace h := h a1 ea1
    refine s_iload (q := 71) 42 3 rfl rfl ?_
    refine s_icmp_ne (q := 74) (tgt := 90) 43 rfl rfl (fun hb => ?_) (fun hb => ?_)
    · skip
      have b12 := hb
      replace h := h.1 hb
      refine s_iload (q := 92) 53 4 rfl rfl ?_
      refine s_istore (q := 94) (lv' := [(5, (0, x5)), (0, (2, x0)), (2, (0, x2)), (3, (0, x3)), (4, (0, x4)), (6, (0, x6))]) 54 rfl rfl ?_
      obtain ⟨c13, h⟩ := h
      refine n_iinc (q := 97) (lv' := [(6, (0, x6 + 1)), (5, (0, x5)), (0, (2, x0)), (2, (0, x2)), (3, (0, x3)), (4, (0, x4))]) 55 5 rfl rfl c13 rfl ?_
      refine s_goto (tgt := 42) 56 rfl rfl ?_
      refine PW.pick [2, 3, 4, 5, 1, 0] rfl ?_
      exact h
    · have hb := Classical.not_not.mp hb
      have b12 := hb
      replace h := h.2 hb
      refine s_aload_n (q := 75) 44 0 rfl rfl ?_
      refine n_getf (q := 78) (jj := 3) 45 12 3 rfl kX12_13 c1 ?_
      refine s_iload_n (q := 79) 46 1 rfl rfl ?_
      refine s_iload (q := 81) 47 5 rfl rfl ?_
      refine n_callS (N := mX12_tupleAt) (as := [(0, x2), (0, x6)]) (st := [(2, F x0 3)]) (q := 84) (d' := 0) 48 rfl uX12_tupleAt kX12_225 rfl ?_
      show PW l G 0 mX12_tupleAt (0, 0) 0 [(0, (0, x2)), (1, (0, x6))] [] (n, K, F, E) _
      refine s_bipush (q := 2) 0 rfl ?_
      refine s_bipush (q := 4) 1 rfl ?_
      refine s_iload_n (q := 5) 2 0 rfl rfl ?_
      refine n_imul (q := 6) 3 rfl c6 ?_
      refine n_iadd (q := 7) 4 rfl c7 ?_
      refine s_iconst (q := 8) 5 rfl ?_
      refine s_iload_n (q := 9) 6 1 rfl rfl ?_
      refine n_imul (q := 10) 7 rfl c8 ?_
      refine n_iadd (q := 11) 8 rfl c9 ?_
      refine s_iret 9 rfl rfl ?_
      show PW l G 1 mX12_fieldOf bg 84 [(0, (2, x0)), (2, (0, x2)), (3, (0, x3)), (4, (0, x4)), (5, (0, x5)), (6, (0, x6))] [(0, (42 + (27 * x2)) + (3 * x6)), (2, F x0 3)] (n, K, F, E) Q
      refine s_iload_n (q := 85) 49 2 rfl rfl ?_
      obtain ⟨c14, h⟩ := h
      refine n_iadd (q := 86) 50 rfl c14 ?_
      obtain ⟨c15, h⟩ := h
      refine n_iald (q := 87) 51 rfl c3 c15 ?_
      refine PW.name (fun a2 ea2 => ?_)
      replace h := h a2 ea2
      refine s_goto (tgt := 92) 52 rfl rfl ?_
      refine s_istore (q := 94) (lv' := [(5, (0, a2)), (0, (2, x0)), (2, (0, x2)), (3, (0, x3)), (4, (0, x4)), (6, (0, x6))]) 54 rfl rfl ?_
      obtain ⟨c16, h⟩ := h
      refine n_iinc (q := 97) (lv' := [(6, (0, x6 + 1)), (5, (0, a2)), (0, (2, x0)), (2, (0, x2)), (3, (0, x3)), (4, (0, x4))]) 55 5 rfl rfl c16 rfl ?_
      refine s_goto (tgt := 42) 56 rfl rfl ?_
      refine PW.pick [2, 3, 4, 5, 1, 0] rfl ?_
      exact h
theorem vX12_isOpenTo_0 {l : Launch} {G : pG} {bg : Nat × Nat} {n : Nat} {K : Int → Nat × Nat} {F E : Int → Int → Int} {Q : Option pV → pM → Prop} (x0 x1 x2 : Int) (h : (-2147483648 ≤ 6 * x2 ∧ 6 * x2 < 2147483648) ∧ (-2147483648 ≤ 18 + (6 * x2) ∧ 18 + (6 * x2) < 2147483648) ∧ (K x0).1 = 12 ∧ (K (F x0 42)).1 = 20 ∧ ((0 : Int) ≤ x1 ∧ x1 < ((K (F x0 42)).2 : Int)) ∧ PC l G 0 mX12_is (0, 0) [(0, E (F x0 42) x1), (0, x2)] (n, K, F, E) (fun r μ => PW l G 1 mX12_isOpenTo bg 15 [(0, (2, x0)), (1, (0, x1)), (3, (0, 18 + (6 * x2)))] (r.toList ++ []) μ Q)) : PW l G 1 mX12_isOpenTo bg 0 [(0, (2, x0)), (1, (0, x1)), (2, (0, x2))] [] (n, K, F, E) Q := by
  refine s_iload_n (q := 1) 0 2 rfl rfl ?_
  refine n_callS (N := mX12_operatorAt) (as := [(0, x2)]) (st := []) (q := 4) (d' := 0) 1 rfl uX12_operatorAt kX12_210 rfl ?_
  show PW l G 0 mX12_operatorAt (0, 0) 0 [(0, (0, x2))] [] (n, K, F, E) _
  refine s_bipush (q := 2) 0 rfl ?_
  refine s_bipush (q := 4) 1 rfl ?_
  refine s_iload_n (q := 5) 2 0 rfl rfl ?_
  obtain ⟨c1, h⟩ := h
  refine n_imul (q := 6) 3 rfl c1 ?_
  obtain ⟨c2, h⟩ := h
  refine n_iadd (q := 7) 4 rfl c2 ?_
  refine s_iret 5 rfl rfl ?_
  show PW l G 1 mX12_isOpenTo bg 4 [(0, (2, x0)), (1, (0, x1)), (2, (0, x2))] [(0, 18 + (6 * x2))] (n, K, F, E) Q
  refine s_istore_n (q := 5) (lv' := [(3, (0, 18 + (6 * x2))), (0, (2, x0)), (1, (0, x1)), (2, (0, x2))]) 2 rfl rfl ?_
  refine s_aload_n (q := 6) 3 1 rfl rfl ?_
  obtain ⟨c3, h⟩ := h
  refine n_getf (q := 9) (jj := 42) 4 12 42 rfl kX12_109 c3 ?_
  refine s_iload_n (q := 10) 5 2 rfl rfl ?_
  obtain ⟨c4, h⟩ := h
  obtain ⟨c5, h⟩ := h
  refine n_iald (q := 11) 6 rfl c4 c5 ?_
  refine s_iload_n (q := 12) 7 3 rfl rfl ?_
  refine PW.pick [1, 2, 0] rfl ?_
  exact n_callS (N := mX12_is) (as := [(0, E (F x0 42) x1), (0, x2)]) (st := []) (q := 15) (d' := 0) 8 rfl uX12_is kX12_445 rfl h
theorem vX12_isOpenTo_15 {l : Launch} {G : pG} {bg : Nat × Nat} {n : Nat} {K : Int → Nat × Nat} {F E : Int → Int → Int} {Q : Option pV → pM → Prop} (x0 x1 x3 s0 : Int) (h : ((¬ s0 = 0 → Q (some (0, 0)) (n, K, F, E)) ∧ (s0 = 0 → (K x0).1 = 12 ∧ (-2147483648 ≤ x3 + 1 ∧ x3 + 1 < 2147483648) ∧ (K (F x0 3)).1 = 20 ∧ ((0 : Int) ≤ x3 + 1 ∧ x3 + 1 < ((K (F x0 3)).2 : Int)) ∧ (-2147483648 ≤ 3 * x1 ∧ 3 * x1 < 2147483648) ∧ (-2147483648 ≤ (3 * x1) + (E (F x0 3) (x3 + 1)) ∧ (3 * x1) + (E (F x0 3) (x3 + 1)) < 2147483648) ∧ (K (F x0 41)).1 = 20 ∧ ((0 : Int) ≤ (3 * x1) + (E (F x0 3) (x3 + 1)) ∧ (3 * x1) + (E (F x0 3) (x3 + 1)) < ((K (F x0 41)).2 : Int)) ∧ ((0 < E (F x0 41) ((3 * x1) + (E (F x0 3) (x3 + 1))) → Q (some (0, 1)) (n, K, F, E)) ∧ (¬ (0 < E (F x0 41) ((3 * x1) + (E (F x0 3) (x3 + 1)))) → (-2147483648 ≤ x3 + 0 ∧ x3 + 0 < 2147483648) ∧ ((0 : Int) ≤ x3 + 0 ∧ x3 + 0 < ((K (F x0 3)).2 : Int)) ∧ ((¬ (E (F x0 3) (x3 + 0)) = 0 → Q (some (0, 0)) (n, K, F, E)) ∧ ((E (F x0 3) (x3 + 0)) = 0 → (-2147483648 ≤ x3 + 3 ∧ x3 + 3 < 2147483648) ∧ ((0 : Int) ≤ x3 + 3 ∧ x3 + 3 < ((K (F x0 3)).2 : Int)) ∧ (-2147483648 ≤ (3 * x1) + (E (F x0 3) (x3 + 3)) ∧ (3 * x1) + (E (F x0 3) (x3 + 3)) < 2147483648) ∧ ((0 : Int) ≤ (3 * x1) + (E (F x0 3) (x3 + 3)) ∧ (3 * x1) + (E (F x0 3) (x3 + 3)) < ((K (F x0 41)).2 : Int)) ∧ ((¬ (0 < E (F x0 41) ((3 * x1) + (E (F x0 3) (x3 + 3)))) → Q (some (0, 0)) (n, K, F, E)) ∧ (0 < E (F x0 41) ((3 * x1) + (E (F x0 3) (x3 + 3))) → Q (some (0, 1)) (n, K, F, E)))))))))) : PW l G 1 mX12_isOpenTo bg 15 [(0, (2, x0)), (1, (0, x1)), (3, (0, x3))] [(0, s0)] (n, K, F, E) Q := by
  refine s_if_ne (q := 18) (tgt := 65) 9 rfl rfl (fun hb => ?_) (fun hb => ?_)
  · skip
    have b1 := hb
    replace h := h.1 hb
    refine s_iconst (q := 66) 39 rfl ?_
    exact s_zret 40 rfl rfl (by decide) h
  · have hb := Classical.not_not.mp hb
    have b1 := hb
    replace h := h.2 hb
    refine s_aload_n (q := 19) 10 0 rfl rfl ?_
    refine s_iload_n (q := 20) 11 1 rfl rfl ?_
    refine s_aload_n (q := 21) 12 0 rfl rfl ?_
    obtain ⟨c2, h⟩ := h
    refine n_getf (q := 24) (jj := 3) 13 12 3 rfl kX12_13 c2 ?_
    refine s_iload_n (q := 25) 14 2 rfl rfl ?_
    refine s_iconst (q := 26) 15 rfl ?_
    obtain ⟨c3, h⟩ := h
    refine n_iadd (q := 27) 16 rfl c3 ?_
    obtain ⟨c4, h⟩ := h
    obtain ⟨c5, h⟩ := h
    refine n_iald (q := 28) 17 rfl c4 c5 ?_
    obtain ⟨c6, h⟩ := h
    obtain ⟨c7, h⟩ := h
    obtain ⟨c8, h⟩ := h
    obtain ⟨c9, h⟩ := h
    refine n_callV (N := mX12_hasTuple) (as := [(0, x1), (0, E (F x0 3) (x3 + 1))]) (st := []) (q := 31) (d' := 0) 18 rfl uX12_hasTuple kX12_449 rfl c2 (pX12_hasTuple c2 c6 c7 c8 c9 ?_)
    show PW l G 1 mX12_isOpenTo bg 31 [(0, (2, x0)), (1, (0, x1)), (3, (0, x3))] [(0, bI (0 < E (F x0 41) ((3 * x1) + (E (F x0 3) (x3 + 1)))))] (n, K, F, E) Q
    refine s_if_ne (q := 34) (tgt := 61) 19 rfl rfl (fun hb => ?_) (fun hb => ?_)
    · have hb := bI_t hb
      have b10 := hb
      replace h := h.1 hb
      refine s_iconst (q := 62) 37 rfl ?_
      refine s_goto (tgt := 66) 38 rfl rfl ?_
      exact s_zret 40 rfl rfl (by decide) h
    · have hb := bI_f2 hb
      have b10 := hb
      replace h := h.2 hb
      refine s_aload_n (q := 35) 20 0 rfl rfl ?_
      refine n_getf (q := 38) (jj := 3) 21 12 3 rfl kX12_13 c2 ?_
      refine s_iload_n (q := 39) 22 2 rfl rfl ?_
      refine s_iconst (q := 40) 23 rfl ?_
      obtain ⟨c11, h⟩ := h
      refine n_iadd (q := 41) 24 rfl c11 ?_
      obtain ⟨c12, h⟩ := h
      refine n_iald (q := 42) 25 rfl c4 c12 ?_
      refine s_if_ne (q := 45) (tgt := 65) 26 rfl rfl (fun hb => ?_) (fun hb => ?_)
      · skip
        have b13 := hb
        replace h := h.1 hb
        refine s_iconst (q := 66) 39 rfl ?_
        exact s_zret 40 rfl rfl (by decide) h
      · have hb := Classical.not_not.mp hb
        have b13 := hb
        replace h := h.2 hb
        refine s_aload_n (q := 46) 27 0 rfl rfl ?_
        refine s_iload_n (q := 47) 28 1 rfl rfl ?_
        refine s_aload_n (q := 48) 29 0 rfl rfl ?_
        refine n_getf (q := 51) (jj := 3) 30 12 3 rfl kX12_13 c2 ?_
        refine s_iload_n (q := 52) 31 2 rfl rfl ?_
        refine s_iconst (q := 53) 32 rfl ?_
        obtain ⟨c14, h⟩ := h
        refine n_iadd (q := 54) 33 rfl c14 ?_
        obtain ⟨c15, h⟩ := h
        refine n_iald (q := 55) 34 rfl c4 c15 ?_
        obtain ⟨c16, h⟩ := h
        obtain ⟨c17, h⟩ := h
        refine n_callV (N := mX12_hasTuple) (as := [(0, x1), (0, E (F x0 3) (x3 + 3))]) (st := []) (q := 58) (d' := 0) 35 rfl uX12_hasTuple kX12_449 rfl c2 (pX12_hasTuple c2 c6 c16 c8 c17 ?_)
        show PW l G 1 mX12_isOpenTo bg 58 [(0, (2, x0)), (1, (0, x1)), (3, (0, x3))] [(0, bI (0 < E (F x0 41) ((3 * x1) + (E (F x0 3) (x3 + 3)))))] (n, K, F, E) Q
        refine s_if_eq (q := 61) (tgt := 65) 36 rfl rfl (fun hb => ?_) (fun hb => ?_)
        · have hb := bI_f hb
          have b18 := hb
          replace h := h.1 hb
          refine s_iconst (q := 66) 39 rfl ?_
          exact s_zret 40 rfl rfl (by decide) h
        · have hb := bI_t hb
          have b18 := hb
          replace h := h.2 hb
          refine s_iconst (q := 62) 37 rfl ?_
          refine s_goto (tgt := 66) 38 rfl rfl ?_
          exact s_zret 40 rfl rfl (by decide) h
theorem vX12_taker_0 {l : Launch} {G : pG} {bg : Nat × Nat} {n : Nat} {K : Int → Nat × Nat} {F E : Int → Int → Int} {Q : Option pV → pM → Prop} (x0 x1 : Int) (h : PW l G 2 mX12_taker bg 4 [(0, (2, x0)), (1, (0, x1)), (2, (0, (-1))), (3, (0, 0))] [] (n, K, F, E) Q) : PW l G 2 mX12_taker bg 0 [(0, (2, x0)), (1, (0, x1))] [] (n, K, F, E) Q := by
  refine s_iconst (q := 1) 0 rfl ?_
  refine s_istore_n (q := 2) (lv' := [(2, (0, (-1))), (0, (2, x0)), (1, (0, x1))]) 1 rfl rfl ?_
  refine s_iconst (q := 3) 2 rfl ?_
  refine s_istore_n (q := 4) (lv' := [(3, (0, 0)), (2, (0, (-1))), (0, (2, x0)), (1, (0, x1))]) 3 rfl rfl ?_
  refine PW.pick [2, 3, 1, 0] rfl ?_
  exact h
theorem vX12_taker_4 {l : Launch} {G : pG} {bg : Nat × Nat} {n : Nat} {K : Int → Nat × Nat} {F E : Int → Int → Int} {Q : Option pV → pM → Prop} (x0 x1 x2 x3 : Int) (h : (K x0).1 = 12 ∧ (K (F x0 3)).1 = 20 ∧ ((0 : Int) ≤ 6 ∧ 6 < ((K (F x0 3)).2 : Int)) ∧ ((E (F x0 3) 6 ≤ x3 → Q (some (0, x2)) (n, K, F, E)) ∧ (¬ (E (F x0 3) 6 ≤ x3) → ((F x0 56 = 0 → ((x2 = (-1) → PC l G 1 mX12_isOpenTo (0, 0) [(2, x0), (0, x1), (0, x3)] (n, K, F, E) (fun r μ => PW l G 2 mX12_taker bg 81 [(0, (2, x0)), (1, (0, x1)), (2, (0, x2)), (3, (0, x3)), (4, (0, x3))] (r.toList ++ []) μ Q)) ∧ (¬ (x2 = (-1)) → ((¬ (F x0 56) = 0 → (-2147483648 ≤ x3 + 1 ∧ x3 + 1 < 2147483648) ∧ PW l G 2 mX12_taker bg 4 [(0, (2, x0)), (1, (0, x1)), (2, (0, x2)), (3, (0, x3 + 1))] [] (n, K, F, E) Q) ∧ ((F x0 56) = 0 → (K (F x0 46)).1 = 20 ∧ ((0 : Int) ≤ x3 ∧ x3 < ((K (F x0 46)).2 : Int)) ∧ ((0 : Int) ≤ x2 ∧ x2 < ((K (F x0 46)).2 : Int)) ∧ ((E (F x0 46) x3 ≤ E (F x0 46) x2 → (-2147483648 ≤ x3 + 1 ∧ x3 + 1 < 2147483648) ∧ PW l G 2 mX12_taker bg 4 [(0, (2, x0)), (1, (0, x1)), (2, (0, x2)), (3, (0, x3 + 1))] [] (n, K, F, E) Q) ∧ (¬ (E (F x0 46) x3 ≤ E (F x0 46) x2) → PC l G 1 mX12_isOpenTo (0, 0) [(2, x0), (0, x1), (0, x3)] (n, K, F, E) (fun r μ => PW l G 2 mX12_taker bg 81 [(0, (2, x0)), (1, (0, x1)), (2, (0, x2)), (3, (0, x3)), (4, (0, x3))] (r.toList ++ []) μ Q)))))))) ∧ (¬ (F x0 56 = 0) → (K (F x0 57)).1 = 20 ∧ ((0 : Int) ≤ x3 ∧ x3 < ((K (F x0 57)).2 : Int)) ∧ ((x2 = (-1) → PC l G 1 mX12_isOpenTo (0, 0) [(2, x0), (0, x1), (0, E (F x0 57) x3)] (n, K, F, E) (fun r μ => PW l G 2 mX12_taker bg 81 [(0, (2, x0)), (1, (0, x1)), (2, (0, x2)), (3, (0, x3)), (4, (0, E (F x0 57) x3))] (r.toList ++ []) μ Q)) ∧ (¬ (x2 = (-1)) → ((¬ (F x0 56) = 0 → (-2147483648 ≤ x3 + 1 ∧ x3 + 1 < 2147483648) ∧ PW l G 2 mX12_taker bg 4 [(0, (2, x0)), (1, (0, x1)), (2, (0, x2)), (3, (0, x3 + 1))] [] (n, K, F, E) Q) ∧ ((F x0 56) = 0 → (K (F x0 46)).1 = 20 ∧ ((0 : Int) ≤ E (F x0 57) x3 ∧ E (F x0 57) x3 < ((K (F x0 46)).2 : Int)) ∧ ((0 : Int) ≤ x2 ∧ x2 < ((K (F x0 46)).2 : Int)) ∧ ((E (F x0 46) (E (F x0 57) x3) ≤ E (F x0 46) x2 → (-2147483648 ≤ x3 + 1 ∧ x3 + 1 < 2147483648) ∧ PW l G 2 mX12_taker bg 4 [(0, (2, x0)), (1, (0, x1)), (2, (0, x2)), (3, (0, x3 + 1))] [] (n, K, F, E) Q) ∧ (¬ (E (F x0 46) (E (F x0 57) x3) ≤ E (F x0 46) x2) → PC l G 1 mX12_isOpenTo (0, 0) [(2, x0), (0, x1), (0, E (F x0 57) x3)] (n, K, F, E) (fun r μ => PW l G 2 mX12_taker bg 81 [(0, (2, x0)), (1, (0, x1)), (2, (0, x2)), (3, (0, x3)), (4, (0, E (F x0 57) x3))] (r.toList ++ []) μ Q)))))))))))) : PW l G 2 mX12_taker bg 4 [(0, (2, x0)), (1, (0, x1)), (2, (0, x2)), (3, (0, x3))] [] (n, K, F, E) Q := by
  refine s_iload_n (q := 5) 4 3 rfl rfl ?_
  refine s_aload_n (q := 6) 5 0 rfl rfl ?_
  obtain ⟨c1, h⟩ := h
  refine n_getf (q := 9) (jj := 3) 6 12 3 rfl kX12_13 c1 ?_
  refine s_bipush (q := 11) 7 rfl ?_
  obtain ⟨c2, h⟩ := h
  obtain ⟨c3, h⟩ := h
  refine n_iald (q := 12) 8 rfl c2 c3 ?_
  refine s_icmp_ge (q := 15) (tgt := 97) 9 rfl rfl (fun hb => ?_) (fun hb => ?_)
  · skip
    have b4 := hb
    replace h := h.1 hb
    refine s_iload_n (q := 98) 52 2 rfl rfl ?_
    exact s_iret 53 rfl rfl h
  · skip
    have b4 := hb
    replace h := h.2 hb
    refine s_aload_n (q := 16) 10 0 rfl rfl ?_
    refine n_getf (q := 19) (jj := 56) 11 12 56 rfl kX12_452 c1 ?_
    refine s_if_eq (q := 22) (tgt := 31) 12 rfl rfl (fun hb => ?_) (fun hb => ?_)
    · skip
      have b5 := hb
      replace h := h.1 hb
      refine s_iload_n (q := 32) 18 3 rfl rfl ?_
      refine s_istore (q := 34) (lv' := [(4, (0, x3)), (0, (2, x0)), (1, (0, x1)), (2, (0, x2)), (3, (0, x3))]) 19 rfl rfl ?_
      refine s_iload_n (q := 35) 20 3 rfl rfl ?_
      refine s_iconst (q := 36) 21 rfl ?_
      refine s_icmp_eq (q := 39) (tgt := 62) 22 rfl rfl (fun hb => ?_) (fun hb => ?_)
      · skip
        have b6 := hb
        replace h := h.1 hb
        refine s_iconst (q := 63) 35 rfl ?_
        refine s_goto (tgt := 67) 36 rfl rfl ?_
        refine s_istore (q := 69) (lv' := [(5, (0, 1)), (4, (0, x3)), (0, (2, x0)), (1, (0, x1)), (2, (0, x2)), (3, (0, x3))]) 38 rfl rfl ?_
        refine s_iload (q := 71) 39 0 rfl rfl ?_
        refine s_if_eq (q := 74) (tgt := 89) 40 rfl rfl (fun hb => absurd hb (by decide)) (fun _ => ?_)
        refine s_aload_n (q := 75) 41 2 rfl rfl ?_
        refine s_iload_n (q := 76) 42 3 rfl rfl ?_
        refine s_iload (q := 78) 43 1 rfl rfl ?_
        refine PW.pick [2, 3, 4, 5, 1] rfl ?_
        exact n_callV (N := mX12_isOpenTo) (as := [(0, x1), (0, x3)]) (st := []) (q := 81) (d' := 1) 44 rfl uX12_isOpenTo kX12_455 rfl c1 h
      · skip
        have b6 := hb
        replace h := h.2 hb
        refine s_aload_n (q := 40) 23 1 rfl rfl ?_
        refine n_getf (q := 43) (jj := 56) 24 12 56 rfl kX12_452 c1 ?_
        refine s_if_ne (q := 46) (tgt := 66) 25 rfl rfl (fun hb => ?_) (fun hb => ?_)
        · skip
          have b7 := hb
          replace h := h.1 hb
          refine s_iconst (q := 67) 37 rfl ?_
          refine s_istore (q := 69) (lv' := [(5, (0, 0)), (4, (0, x3)), (0, (2, x0)), (1, (0, x1)), (2, (0, x2)), (3, (0, x3))]) 38 rfl rfl ?_
          refine s_iload (q := 71) 39 0 rfl rfl ?_
          refine s_if_eq (q := 74) (tgt := 89) 40 rfl rfl (fun _ => ?_) (fun hb => absurd (by decide) hb)
          refine s_iload_n (q := 90) 48 4 rfl rfl ?_
          refine s_istore_n (q := 91) (lv' := [(2, (0, x2)), (5, (0, 0)), (4, (0, x3)), (0, (2, x0)), (1, (0, x1)), (3, (0, x3))]) 49 rfl rfl ?_
          obtain ⟨c8, h⟩ := h
          refine n_iinc (q := 94) (lv' := [(3, (0, x3 + 1)), (2, (0, x2)), (5, (0, 0)), (4, (0, x3)), (0, (2, x0)), (1, (0, x1))]) 50 5 rfl rfl c8 rfl ?_
          refine s_goto (tgt := 4) 51 rfl rfl ?_
          refine PW.pick [4, 5, 1, 0] rfl ?_
          exact h
        · have hb := Classical.not_not.mp hb
          have b7 := hb
          replace h := h.2 hb
          refine s_aload_n (q := 47) 26 1 rfl rfl ?_
          refine n_getf (q := 50) (jj := 46) 27 12 46 rfl kX12_121 c1 ?_
          refine s_iload (q := 52) 28 0 rfl rfl ?_
          obtain ⟨c9, h⟩ := h
          obtain ⟨c10, h⟩ := h
          refine n_iald (q := 53) 29 rfl c9 c10 ?_
          refine s_aload_n (q := 54) 30 1 rfl rfl ?_
          refine n_getf (q := 57) (jj := 46) 31 12 46 rfl kX12_121 c1 ?_
          refine s_iload_n (q := 58) 32 3 rfl rfl ?_
          obtain ⟨c11, h⟩ := h
          refine n_iald (q := 59) 33 rfl c9 c11 ?_
          refine s_icmp_le (q := 62) (tgt := 66) 34 rfl rfl (fun hb => ?_) (fun hb => ?_)
          · skip
            have b12 := hb
            replace h := h.1 hb
            refine s_iconst (q := 67) 37 rfl ?_
            refine s_istore (q := 69) (lv' := [(5, (0, 0)), (4, (0, x3)), (0, (2, x0)), (1, (0, x1)), (2, (0, x2)), (3, (0, x3))]) 38 rfl rfl ?_
            refine s_iload (q := 71) 39 0 rfl rfl ?_
            refine s_if_eq (q := 74) (tgt := 89) 40 rfl rfl (fun _ => ?_) (fun hb => absurd (by decide) hb)
            refine s_iload_n (q := 90) 48 4 rfl rfl ?_
            refine s_istore_n (q := 91) (lv' := [(2, (0, x2)), (5, (0, 0)), (4, (0, x3)), (0, (2, x0)), (1, (0, x1)), (3, (0, x3))]) 49 rfl rfl ?_
            obtain ⟨c13, h⟩ := h
            refine n_iinc (q := 94) (lv' := [(3, (0, x3 + 1)), (2, (0, x2)), (5, (0, 0)), (4, (0, x3)), (0, (2, x0)), (1, (0, x1))]) 50 5 rfl rfl c13 rfl ?_
            refine s_goto (tgt := 4) 51 rfl rfl ?_
            refine PW.pick [4, 5, 1, 0] rfl ?_
            exact h
          · skip
            have b12 := hb
            replace h := h.2 hb
            refine s_iconst (q := 63) 35 rfl ?_
            refine s_goto (tgt := 67) 36 rfl rfl ?_
            refine s_istore (q := 69) (lv' := [(5, (0, 1)), (4, (0, x3)), (0, (2, x0)), (1, (0, x1)), (2, (0, x2)), (3, (0, x3))]) 38 rfl rfl ?_
            refine s_iload (q := 71) 39 0 rfl rfl ?_
            refine s_if_eq (q := 74) (tgt := 89) 40 rfl rfl (fun hb => absurd hb (by decide)) (fun _ => ?_)
            refine s_aload_n (q := 75) 41 2 rfl rfl ?_
            refine s_iload_n (q := 76) 42 3 rfl rfl ?_
            refine s_iload (q := 78) 43 1 rfl rfl ?_
            refine PW.pick [2, 3, 4, 5, 1] rfl ?_
            exact n_callV (N := mX12_isOpenTo) (as := [(0, x1), (0, x3)]) (st := []) (q := 81) (d' := 1) 44 rfl uX12_isOpenTo kX12_455 rfl c1 h
    · skip
      have b5 := hb
      replace h := h.2 hb
      refine s_aload_n (q := 23) 13 0 rfl rfl ?_
      refine n_getf (q := 26) (jj := 57) 14 12 57 rfl kX12_133 c1 ?_
      refine s_iload_n (q := 27) 15 3 rfl rfl ?_
      obtain ⟨c14, h⟩ := h
      obtain ⟨c15, h⟩ := h
      refine n_iald (q := 28) 16 rfl c14 c15 ?_
      refine s_goto (tgt := 32) 17 rfl rfl ?_
      refine s_istore (q := 34) (lv' := [(4, (0, E (F x0 57) x3)), (0, (2, x0)), (1, (0, x1)), (2, (0, x2)), (3, (0, x3))]) 19 rfl rfl ?_
      refine s_iload_n (q := 35) 20 3 rfl rfl ?_
      refine s_iconst (q := 36) 21 rfl ?_
      refine s_icmp_eq (q := 39) (tgt := 62) 22 rfl rfl (fun hb => ?_) (fun hb => ?_)
      · skip
        have b16 := hb
        replace h := h.1 hb
        refine s_iconst (q := 63) 35 rfl ?_
        refine s_goto (tgt := 67) 36 rfl rfl ?_
        refine s_istore (q := 69) (lv' := [(5, (0, 1)), (4, (0, E (F x0 57) x3)), (0, (2, x0)), (1, (0, x1)), (2, (0, x2)), (3, (0, x3))]) 38 rfl rfl ?_
        refine s_iload (q := 71) 39 0 rfl rfl ?_
        refine s_if_eq (q := 74) (tgt := 89) 40 rfl rfl (fun hb => absurd hb (by decide)) (fun _ => ?_)
        refine s_aload_n (q := 75) 41 2 rfl rfl ?_
        refine s_iload_n (q := 76) 42 3 rfl rfl ?_
        refine s_iload (q := 78) 43 1 rfl rfl ?_
        refine PW.pick [2, 3, 4, 5, 1] rfl ?_
        exact n_callV (N := mX12_isOpenTo) (as := [(0, x1), (0, E (F x0 57) x3)]) (st := []) (q := 81) (d' := 1) 44 rfl uX12_isOpenTo kX12_455 rfl c1 h
      · skip
        have b16 := hb
        replace h := h.2 hb
        refine s_aload_n (q := 40) 23 1 rfl rfl ?_
        refine n_getf (q := 43) (jj := 56) 24 12 56 rfl kX12_452 c1 ?_
        refine s_if_ne (q := 46) (tgt := 66) 25 rfl rfl (fun hb => ?_) (fun hb => ?_)
        · skip
          have b17 := hb
          replace h := h.1 hb
          refine s_iconst (q := 67) 37 rfl ?_
          refine s_istore (q := 69) (lv' := [(5, (0, 0)), (4, (0, E (F x0 57) x3)), (0, (2, x0)), (1, (0, x1)), (2, (0, x2)), (3, (0, x3))]) 38 rfl rfl ?_
          refine s_iload (q := 71) 39 0 rfl rfl ?_
          refine s_if_eq (q := 74) (tgt := 89) 40 rfl rfl (fun _ => ?_) (fun hb => absurd (by decide) hb)
          refine s_iload_n (q := 90) 48 4 rfl rfl ?_
          refine s_istore_n (q := 91) (lv' := [(2, (0, x2)), (5, (0, 0)), (4, (0, E (F x0 57) x3)), (0, (2, x0)), (1, (0, x1)), (3, (0, x3))]) 49 rfl rfl ?_
          obtain ⟨c18, h⟩ := h
          refine n_iinc (q := 94) (lv' := [(3, (0, x3 + 1)), (2, (0, x2)), (5, (0, 0)), (4, (0, E (F x0 57) x3)), (0, (2, x0)), (1, (0, x1))]) 50 5 rfl rfl c18 rfl ?_
          refine s_goto (tgt := 4) 51 rfl rfl ?_
          refine PW.pick [4, 5, 1, 0] rfl ?_
          exact h
        · have hb := Classical.not_not.mp hb
          have b17 := hb
          replace h := h.2 hb
          refine s_aload_n (q := 47) 26 1 rfl rfl ?_
          refine n_getf (q := 50) (jj := 46) 27 12 46 rfl kX12_121 c1 ?_
          refine s_iload (q := 52) 28 0 rfl rfl ?_
          obtain ⟨c19, h⟩ := h
          obtain ⟨c20, h⟩ := h
          refine n_iald (q := 53) 29 rfl c19 c20 ?_
          refine s_aload_n (q := 54) 30 1 rfl rfl ?_
          refine n_getf (q := 57) (jj := 46) 31 12 46 rfl kX12_121 c1 ?_
          refine s_iload_n (q := 58) 32 3 rfl rfl ?_
          obtain ⟨c21, h⟩ := h
          refine n_iald (q := 59) 33 rfl c19 c21 ?_
          refine s_icmp_le (q := 62) (tgt := 66) 34 rfl rfl (fun hb => ?_) (fun hb => ?_)
          · skip
            have b22 := hb
            replace h := h.1 hb
            refine s_iconst (q := 67) 37 rfl ?_
            refine s_istore (q := 69) (lv' := [(5, (0, 0)), (4, (0, E (F x0 57) x3)), (0, (2, x0)), (1, (0, x1)), (2, (0, x2)), (3, (0, x3))]) 38 rfl rfl ?_
            refine s_iload (q := 71) 39 0 rfl rfl ?_
            refine s_if_eq (q := 74) (tgt := 89) 40 rfl rfl (fun _ => ?_) (fun hb => absurd (by decide) hb)
            refine s_iload_n (q := 90) 48 4 rfl rfl ?_
            refine s_istore_n (q := 91) (lv' := [(2, (0, x2)), (5, (0, 0)), (4, (0, E (F x0 57) x3)), (0, (2, x0)), (1, (0, x1)), (3, (0, x3))]) 49 rfl rfl ?_
            obtain ⟨c23, h⟩ := h
            refine n_iinc (q := 94) (lv' := [(3, (0, x3 + 1)), (2, (0, x2)), (5, (0, 0)), (4, (0, E (F x0 57) x3)), (0, (2, x0)), (1, (0, x1))]) 50 5 rfl rfl c23 rfl ?_
            refine s_goto (tgt := 4) 51 rfl rfl ?_
            refine PW.pick [4, 5, 1, 0] rfl ?_
            exact h
          · skip
            have b22 := hb
            replace h := h.2 hb
            refine s_iconst (q := 63) 35 rfl ?_
            refine s_goto (tgt := 67) 36 rfl rfl ?_
            refine s_istore (q := 69) (lv' := [(5, (0, 1)), (4, (0, E (F x0 57) x3)), (0, (2, x0)), (1, (0, x1)), (2, (0, x2)), (3, (0, x3))]) 38 rfl rfl ?_
            refine s_iload (q := 71) 39 0 rfl rfl ?_
            refine s_if_eq (q := 74) (tgt := 89) 40 rfl rfl (fun hb => absurd hb (by decide)) (fun _ => ?_)
            refine s_aload_n (q := 75) 41 2 rfl rfl ?_
            refine s_iload_n (q := 76) 42 3 rfl rfl ?_
            refine s_iload (q := 78) 43 1 rfl rfl ?_
            refine PW.pick [2, 3, 4, 5, 1] rfl ?_
            exact n_callV (N := mX12_isOpenTo) (as := [(0, x1), (0, E (F x0 57) x3)]) (st := []) (q := 81) (d' := 1) 44 rfl uX12_isOpenTo kX12_455 rfl c1 h
theorem vX12_taker_81 {l : Launch} {G : pG} {bg : Nat × Nat} {n : Nat} {K : Int → Nat × Nat} {F E : Int → Int → Int} {Q : Option pV → pM → Prop} (x0 x1 x2 x3 x4 s0 : Int) (h : ((s0 = 0 → (-2147483648 ≤ x3 + 1 ∧ x3 + 1 < 2147483648) ∧ PW l G 2 mX12_taker bg 4 [(0, (2, x0)), (1, (0, x1)), (2, (0, x2)), (3, (0, x3 + 1))] [] (n, K, F, E) Q) ∧ (¬ (s0 = 0) → (-2147483648 ≤ x3 + 1 ∧ x3 + 1 < 2147483648) ∧ PW l G 2 mX12_taker bg 4 [(0, (2, x0)), (1, (0, x1)), (2, (0, x4)), (3, (0, x3 + 1))] [] (n, K, F, E) Q))) : PW l G 2 mX12_taker bg 81 [(0, (2, x0)), (1, (0, x1)), (2, (0, x2)), (3, (0, x3)), (4, (0, x4))] [(0, s0)] (n, K, F, E) Q := by
  refine s_if_eq (q := 84) (tgt := 89) 45 rfl rfl (fun hb => ?_) (fun hb => ?_)
  · skip
    have b1 := hb
    replace h := h.1 hb
    refine s_iload_n (q := 90) 48 2 rfl rfl ?_
    refine s_istore_n (q := 91) (lv' := [(2, (0, x2)), (0, (2, x0)), (1, (0, x1)), (3, (0, x3)), (4, (0, x4))]) 49 rfl rfl ?_
    obtain ⟨c2, h⟩ := h
    refine n_iinc (q := 94) (lv' := [(3, (0, x3 + 1)), (2, (0, x2)), (0, (2, x0)), (1, (0, x1)), (4, (0, x4))]) 50 3 rfl rfl c2 rfl ?_
    refine s_goto (tgt := 4) 51 rfl rfl ?_
    refine PW.pick [2, 3, 1, 0] rfl ?_
    exact h
  · skip
    have b1 := hb
    replace h := h.2 hb
    refine s_iload (q := 86) 46 4 rfl rfl ?_
    refine s_goto (tgt := 90) 47 rfl rfl ?_
    refine s_istore_n (q := 91) (lv' := [(2, (0, x4)), (0, (2, x0)), (1, (0, x1)), (3, (0, x3)), (4, (0, x4))]) 49 rfl rfl ?_
    obtain ⟨c3, h⟩ := h
    refine n_iinc (q := 94) (lv' := [(3, (0, x3 + 1)), (2, (0, x4)), (0, (2, x0)), (1, (0, x1)), (4, (0, x4))]) 50 3 rfl rfl c3 rfl ?_
    refine s_goto (tgt := 4) 51 rfl rfl ?_
    refine PW.pick [2, 3, 1, 0] rfl ?_
    exact h
theorem vX12_missing_0 {l : Launch} {G : pG} {bg : Nat × Nat} {n : Nat} {K : Int → Nat × Nat} {F E : Int → Int → Int} {Q : Option pV → pM → Prop} (x0 x1 x2 : Int) (h : (-2147483648 ≤ 6 * x2 ∧ 6 * x2 < 2147483648) ∧ (-2147483648 ≤ 18 + (6 * x2) ∧ 18 + (6 * x2) < 2147483648) ∧ (K x0).1 = 12 ∧ (-2147483648 ≤ (18 + (6 * x2)) + 0 ∧ (18 + (6 * x2)) + 0 < 2147483648) ∧ (K (F x0 3)).1 = 20 ∧ ((0 : Int) ≤ (18 + (6 * x2)) + 0 ∧ (18 + (6 * x2)) + 0 < ((K (F x0 3)).2 : Int)) ∧ ((¬ (E (F x0 3) ((18 + (6 * x2)) + 0)) = 1 → (-2147483648 ≤ (18 + (6 * x2)) + 1 ∧ (18 + (6 * x2)) + 1 < 2147483648) ∧ ((0 : Int) ≤ (18 + (6 * x2)) + 1 ∧ (18 + (6 * x2)) + 1 < ((K (F x0 3)).2 : Int)) ∧ (-2147483648 ≤ 3 * x1 ∧ 3 * x1 < 2147483648) ∧ (-2147483648 ≤ (3 * x1) + (E (F x0 3) ((18 + (6 * x2)) + 1)) ∧ (3 * x1) + (E (F x0 3) ((18 + (6 * x2)) + 1)) < 2147483648) ∧ (K (F x0 41)).1 = 20 ∧ ((0 : Int) ≤ (3 * x1) + (E (F x0 3) ((18 + (6 * x2)) + 1)) ∧ (3 * x1) + (E (F x0 3) ((18 + (6 * x2)) + 1)) < ((K (F x0 41)).2 : Int)) ∧ ((0 < E (F x0 41) ((3 * x1) + (E (F x0 3) ((18 + (6 * x2)) + 1))) → (-2147483648 ≤ (18 + (6 * x2)) + 3 ∧ (18 + (6 * x2)) + 3 < 2147483648) ∧ ((0 : Int) ≤ (18 + (6 * x2)) + 3 ∧ (18 + (6 * x2)) + 3 < ((K (F x0 3)).2 : Int)) ∧ (-2147483648 ≤ (3 * x1) + (E (F x0 3) ((18 + (6 * x2)) + 3)) ∧ (3 * x1) + (E (F x0 3) ((18 + (6 * x2)) + 3)) < 2147483648) ∧ ((0 : Int) ≤ (3 * x1) + (E (F x0 3) ((18 + (6 * x2)) + 3)) ∧ (3 * x1) + (E (F x0 3) ((18 + (6 * x2)) + 3)) < ((K (F x0 41)).2 : Int)) ∧ ((0 < E (F x0 41) ((3 * x1) + (E (F x0 3) ((18 + (6 * x2)) + 3))) → Q (some (0, (-1))) (n, K, F, E)) ∧ (¬ (0 < E (F x0 41) ((3 * x1) + (E (F x0 3) ((18 + (6 * x2)) + 3)))) → Q (some (0, E (F x0 3) ((18 + (6 * x2)) + 3))) (n, K, F, E)))) ∧ (¬ (0 < E (F x0 41) ((3 * x1) + (E (F x0 3) ((18 + (6 * x2)) + 1)))) → Q (some (0, E (F x0 3) ((18 + (6 * x2)) + 1))) (n, K, F, E)))) ∧ ((E (F x0 3) ((18 + (6 * x2)) + 0)) = 1 → Q (some (0, (-1))) (n, K, F, E)))) : PW l G 1 mX12_missing bg 0 [(0, (2, x0)), (1, (0, x1)), (2, (0, x2))] [] (n, K, F, E) Q := by
  refine s_iload_n (q := 1) 0 2 rfl rfl ?_
  refine n_callS (N := mX12_operatorAt) (as := [(0, x2)]) (st := []) (q := 4) (d' := 0) 1 rfl uX12_operatorAt kX12_210 rfl ?_
  show PW l G 0 mX12_operatorAt (0, 0) 0 [(0, (0, x2))] [] (n, K, F, E) _
  refine s_bipush (q := 2) 0 rfl ?_
  refine s_bipush (q := 4) 1 rfl ?_
  refine s_iload_n (q := 5) 2 0 rfl rfl ?_
  obtain ⟨c1, h⟩ := h
  refine n_imul (q := 6) 3 rfl c1 ?_
  obtain ⟨c2, h⟩ := h
  refine n_iadd (q := 7) 4 rfl c2 ?_
  refine s_iret 5 rfl rfl ?_
  show PW l G 1 mX12_missing bg 4 [(0, (2, x0)), (1, (0, x1)), (2, (0, x2))] [(0, 18 + (6 * x2))] (n, K, F, E) Q
  refine s_istore_n (q := 5) (lv' := [(3, (0, 18 + (6 * x2))), (0, (2, x0)), (1, (0, x1)), (2, (0, x2))]) 2 rfl rfl ?_
  refine s_aload_n (q := 6) 3 1 rfl rfl ?_
  obtain ⟨c3, h⟩ := h
  refine n_getf (q := 9) (jj := 3) 4 12 3 rfl kX12_13 c3 ?_
  refine s_iload_n (q := 10) 5 0 rfl rfl ?_
  refine s_iconst (q := 11) 6 rfl ?_
  obtain ⟨c4, h⟩ := h
  refine n_iadd (q := 12) 7 rfl c4 ?_
  obtain ⟨c5, h⟩ := h
  obtain ⟨c6, h⟩ := h
  refine n_iald (q := 13) 8 rfl c5 c6 ?_
  refine s_iconst (q := 14) 9 rfl ?_
  refine s_icmp_ne (q := 17) (tgt := 19) 10 rfl rfl (fun hb => ?_) (fun hb => ?_)
  · skip
    have b7 := hb
    replace h := h.1 hb
    refine s_aload_n (q := 20) 13 1 rfl rfl ?_
    refine s_iload_n (q := 21) 14 2 rfl rfl ?_
    refine s_aload_n (q := 22) 15 1 rfl rfl ?_
    refine n_getf (q := 25) (jj := 3) 16 12 3 rfl kX12_13 c3 ?_
    refine s_iload_n (q := 26) 17 0 rfl rfl ?_
    refine s_iconst (q := 27) 18 rfl ?_
    obtain ⟨c8, h⟩ := h
    refine n_iadd (q := 28) 19 rfl c8 ?_
    obtain ⟨c9, h⟩ := h
    refine n_iald (q := 29) 20 rfl c5 c9 ?_
    obtain ⟨c10, h⟩ := h
    obtain ⟨c11, h⟩ := h
    obtain ⟨c12, h⟩ := h
    obtain ⟨c13, h⟩ := h
    refine n_callV (N := mX12_hasTuple) (as := [(0, x1), (0, E (F x0 3) ((18 + (6 * x2)) + 1))]) (st := []) (q := 32) (d' := 0) 21 rfl uX12_hasTuple kX12_449 rfl c3 (pX12_hasTuple c3 c10 c11 c12 c13 ?_)
    show PW l G 1 mX12_missing bg 32 [(3, (0, 18 + (6 * x2))), (0, (2, x0)), (1, (0, x1)), (2, (0, x2))] [(0, bI (0 < E (F x0 41) ((3 * x1) + (E (F x0 3) ((18 + (6 * x2)) + 1)))))] (n, K, F, E) Q
    refine s_if_ne (q := 35) (tgt := 46) 22 rfl rfl (fun hb => ?_) (fun hb => ?_)
    · have hb := bI_t hb
      have b14 := hb
      replace h := h.1 hb
      refine s_aload_n (q := 47) 30 1 rfl rfl ?_
      refine s_iload_n (q := 48) 31 2 rfl rfl ?_
      refine s_aload_n (q := 49) 32 1 rfl rfl ?_
      refine n_getf (q := 52) (jj := 3) 33 12 3 rfl kX12_13 c3 ?_
      refine s_iload_n (q := 53) 34 0 rfl rfl ?_
      refine s_iconst (q := 54) 35 rfl ?_
      obtain ⟨c15, h⟩ := h
      refine n_iadd (q := 55) 36 rfl c15 ?_
      obtain ⟨c16, h⟩ := h
      refine n_iald (q := 56) 37 rfl c5 c16 ?_
      obtain ⟨c17, h⟩ := h
      obtain ⟨c18, h⟩ := h
      refine n_callV (N := mX12_hasTuple) (as := [(0, x1), (0, E (F x0 3) ((18 + (6 * x2)) + 3))]) (st := []) (q := 59) (d' := 0) 38 rfl uX12_hasTuple kX12_449 rfl c3 (pX12_hasTuple c3 c10 c17 c12 c18 ?_)
      show PW l G 1 mX12_missing bg 59 [(3, (0, 18 + (6 * x2))), (0, (2, x0)), (1, (0, x1)), (2, (0, x2))] [(0, bI (0 < E (F x0 41) ((3 * x1) + (E (F x0 3) ((18 + (6 * x2)) + 3)))))] (n, K, F, E) Q
      refine s_if_ne (q := 62) (tgt := 73) 39 rfl rfl (fun hb => ?_) (fun hb => ?_)
      · have hb := bI_t hb
        have b19 := hb
        replace h := h.1 hb
        refine s_iconst (q := 74) 47 rfl ?_
        exact s_iret 48 rfl rfl h
      · have hb := bI_f2 hb
        have b19 := hb
        replace h := h.2 hb
        refine s_aload_n (q := 63) 40 1 rfl rfl ?_
        refine n_getf (q := 66) (jj := 3) 41 12 3 rfl kX12_13 c3 ?_
        refine s_iload_n (q := 67) 42 0 rfl rfl ?_
        refine s_iconst (q := 68) 43 rfl ?_
        refine n_iadd (q := 69) 44 rfl c15 ?_
        refine n_iald (q := 70) 45 rfl c5 c16 ?_
        refine s_goto (tgt := 74) 46 rfl rfl ?_
        exact s_iret 48 rfl rfl h
    · have hb := bI_f2 hb
      have b14 := hb
      replace h := h.2 hb
      refine s_aload_n (q := 36) 23 1 rfl rfl ?_
      refine n_getf (q := 39) (jj := 3) 24 12 3 rfl kX12_13 c3 ?_
      refine s_iload_n (q := 40) 25 0 rfl rfl ?_
      refine s_iconst (q := 41) 26 rfl ?_
      refine n_iadd (q := 42) 27 rfl c8 ?_
      refine n_iald (q := 43) 28 rfl c5 c9 ?_
      refine s_goto (tgt := 74) 29 rfl rfl ?_
      exact s_iret 48 rfl rfl h
  · have hb := Classical.not_not.mp hb
    have b7 := hb
    replace h := h.2 hb
    refine s_iconst (q := 18) 11 rfl ?_
    exact s_iret 12 rfl rfl h
theorem vX12_fieldIn_0 {l : Launch} {G : pG} {bg : Nat × Nat} {n : Nat} {K : Int → Nat × Nat} {F E : Int → Int → Int} {Q : Option pV → pM → Prop} (x0 x1 x2 : Int) (h : (-2147483648 ≤ 6 * x1 ∧ 6 * x1 < 2147483648) ∧ (-2147483648 ≤ 18 + (6 * x1) ∧ 18 + (6 * x1) < 2147483648) ∧ (K x0).1 = 12 ∧ (-2147483648 ≤ (18 + (6 * x1)) + 1 ∧ (18 + (6 * x1)) + 1 < 2147483648) ∧ (K (F x0 3)).1 = 20 ∧ ((0 : Int) ≤ (18 + (6 * x1)) + 1 ∧ (18 + (6 * x1)) + 1 < ((K (F x0 3)).2 : Int)) ∧ ((¬ (E (F x0 3) ((18 + (6 * x1)) + 1)) = x2 → (-2147483648 ≤ (18 + (6 * x1)) + 4 ∧ (18 + (6 * x1)) + 4 < 2147483648) ∧ ((0 : Int) ≤ (18 + (6 * x1)) + 4 ∧ (18 + (6 * x1)) + 4 < ((K (F x0 3)).2 : Int)) ∧ Q (some (0, E (F x0 3) ((18 + (6 * x1)) + 4))) (n, K, F, E)) ∧ ((E (F x0 3) ((18 + (6 * x1)) + 1)) = x2 → (-2147483648 ≤ (18 + (6 * x1)) + 2 ∧ (18 + (6 * x1)) + 2 < 2147483648) ∧ ((0 : Int) ≤ (18 + (6 * x1)) + 2 ∧ (18 + (6 * x1)) + 2 < ((K (F x0 3)).2 : Int)) ∧ Q (some (0, E (F x0 3) ((18 + (6 * x1)) + 2))) (n, K, F, E)))) : PW l G 1 mX12_fieldIn bg 0 [(0, (2, x0)), (1, (0, x1)), (2, (0, x2))] [] (n, K, F, E) Q := by
  refine s_iload_n (q := 1) 0 1 rfl rfl ?_
  refine n_callS (N := mX12_operatorAt) (as := [(0, x1)]) (st := []) (q := 4) (d' := 0) 1 rfl uX12_operatorAt kX12_210 rfl ?_
  show PW l G 0 mX12_operatorAt (0, 0) 0 [(0, (0, x1))] [] (n, K, F, E) _
  refine s_bipush (q := 2) 0 rfl ?_
  refine s_bipush (q := 4) 1 rfl ?_
  refine s_iload_n (q := 5) 2 0 rfl rfl ?_
  obtain ⟨c1, h⟩ := h
  refine n_imul (q := 6) 3 rfl c1 ?_
  obtain ⟨c2, h⟩ := h
  refine n_iadd (q := 7) 4 rfl c2 ?_
  refine s_iret 5 rfl rfl ?_
  show PW l G 1 mX12_fieldIn bg 4 [(0, (2, x0)), (1, (0, x1)), (2, (0, x2))] [(0, 18 + (6 * x1))] (n, K, F, E) Q
  refine s_istore_n (q := 5) (lv' := [(3, (0, 18 + (6 * x1))), (0, (2, x0)), (1, (0, x1)), (2, (0, x2))]) 2 rfl rfl ?_
  refine s_aload_n (q := 6) 3 1 rfl rfl ?_
  obtain ⟨c3, h⟩ := h
  refine n_getf (q := 9) (jj := 3) 4 12 3 rfl kX12_13 c3 ?_
  refine s_iload_n (q := 10) 5 0 rfl rfl ?_
  refine s_iconst (q := 11) 6 rfl ?_
  obtain ⟨c4, h⟩ := h
  refine n_iadd (q := 12) 7 rfl c4 ?_
  obtain ⟨c5, h⟩ := h
  obtain ⟨c6, h⟩ := h
  refine n_iald (q := 13) 8 rfl c5 c6 ?_
  refine s_iload_n (q := 14) 9 3 rfl rfl ?_
  refine s_icmp_ne (q := 17) (tgt := 28) 10 rfl rfl (fun hb => ?_) (fun hb => ?_)
  · skip
    have b7 := hb
    replace h := h.1 hb
    refine s_aload_n (q := 29) 18 1 rfl rfl ?_
    refine n_getf (q := 32) (jj := 3) 19 12 3 rfl kX12_13 c3 ?_
    refine s_iload_n (q := 33) 20 0 rfl rfl ?_
    refine s_iconst (q := 34) 21 rfl ?_
    obtain ⟨c8, h⟩ := h
    refine n_iadd (q := 35) 22 rfl c8 ?_
    obtain ⟨c9, h⟩ := h
    refine n_iald (q := 36) 23 rfl c5 c9 ?_
    exact s_iret 24 rfl rfl h
  · have hb := Classical.not_not.mp hb
    have b7 := hb
    replace h := h.2 hb
    refine s_aload_n (q := 18) 11 1 rfl rfl ?_
    refine n_getf (q := 21) (jj := 3) 12 12 3 rfl kX12_13 c3 ?_
    refine s_iload_n (q := 22) 13 0 rfl rfl ?_
    refine s_iconst (q := 23) 14 rfl ?_
    obtain ⟨c10, h⟩ := h
    refine n_iadd (q := 24) 15 rfl c10 ?_
    obtain ⟨c11, h⟩ := h
    refine n_iald (q := 25) 16 rfl c5 c11 ?_
    refine s_goto (tgt := 36) 17 rfl rfl ?_
    exact s_iret 24 rfl rfl h
theorem vX12_otherThan_0 {l : Launch} {G : pG} {bg : Nat × Nat} {n : Nat} {K : Int → Nat × Nat} {F E : Int → Int → Int} {Q : Option pV → pM → Prop} (x0 x1 x2 : Int) (h : (-2147483648 ≤ 6 * x1 ∧ 6 * x1 < 2147483648) ∧ (-2147483648 ≤ 18 + (6 * x1) ∧ 18 + (6 * x1) < 2147483648) ∧ (K x0).1 = 12 ∧ (-2147483648 ≤ (18 + (6 * x1)) + 1 ∧ (18 + (6 * x1)) + 1 < 2147483648) ∧ (K (F x0 3)).1 = 20 ∧ ((0 : Int) ≤ (18 + (6 * x1)) + 1 ∧ (18 + (6 * x1)) + 1 < ((K (F x0 3)).2 : Int)) ∧ ((¬ (E (F x0 3) ((18 + (6 * x1)) + 1)) = x2 → Q (some (0, E (F x0 3) ((18 + (6 * x1)) + 1))) (n, K, F, E)) ∧ ((E (F x0 3) ((18 + (6 * x1)) + 1)) = x2 → (-2147483648 ≤ (18 + (6 * x1)) + 3 ∧ (18 + (6 * x1)) + 3 < 2147483648) ∧ ((0 : Int) ≤ (18 + (6 * x1)) + 3 ∧ (18 + (6 * x1)) + 3 < ((K (F x0 3)).2 : Int)) ∧ Q (some (0, E (F x0 3) ((18 + (6 * x1)) + 3))) (n, K, F, E)))) : PW l G 1 mX12_otherThan bg 0 [(0, (2, x0)), (1, (0, x1)), (2, (0, x2))] [] (n, K, F, E) Q := by
  refine s_iload_n (q := 1) 0 1 rfl rfl ?_
  refine n_callS (N := mX12_operatorAt) (as := [(0, x1)]) (st := []) (q := 4) (d' := 0) 1 rfl uX12_operatorAt kX12_210 rfl ?_
  show PW l G 0 mX12_operatorAt (0, 0) 0 [(0, (0, x1))] [] (n, K, F, E) _
  refine s_bipush (q := 2) 0 rfl ?_
  refine s_bipush (q := 4) 1 rfl ?_
  refine s_iload_n (q := 5) 2 0 rfl rfl ?_
  obtain ⟨c1, h⟩ := h
  refine n_imul (q := 6) 3 rfl c1 ?_
  obtain ⟨c2, h⟩ := h
  refine n_iadd (q := 7) 4 rfl c2 ?_
  refine s_iret 5 rfl rfl ?_
  show PW l G 1 mX12_otherThan bg 4 [(0, (2, x0)), (1, (0, x1)), (2, (0, x2))] [(0, 18 + (6 * x1))] (n, K, F, E) Q
  refine s_istore_n (q := 5) (lv' := [(3, (0, 18 + (6 * x1))), (0, (2, x0)), (1, (0, x1)), (2, (0, x2))]) 2 rfl rfl ?_
  refine s_aload_n (q := 6) 3 1 rfl rfl ?_
  obtain ⟨c3, h⟩ := h
  refine n_getf (q := 9) (jj := 3) 4 12 3 rfl kX12_13 c3 ?_
  refine s_iload_n (q := 10) 5 0 rfl rfl ?_
  refine s_iconst (q := 11) 6 rfl ?_
  obtain ⟨c4, h⟩ := h
  refine n_iadd (q := 12) 7 rfl c4 ?_
  obtain ⟨c5, h⟩ := h
  obtain ⟨c6, h⟩ := h
  refine n_iald (q := 13) 8 rfl c5 c6 ?_
  refine s_iload_n (q := 14) 9 3 rfl rfl ?_
  refine s_icmp_ne (q := 17) (tgt := 28) 10 rfl rfl (fun hb => ?_) (fun hb => ?_)
  · skip
    have b7 := hb
    replace h := h.1 hb
    refine s_aload_n (q := 29) 18 1 rfl rfl ?_
    refine n_getf (q := 32) (jj := 3) 19 12 3 rfl kX12_13 c3 ?_
    refine s_iload_n (q := 33) 20 0 rfl rfl ?_
    refine s_iconst (q := 34) 21 rfl ?_
    refine n_iadd (q := 35) 22 rfl c4 ?_
    refine n_iald (q := 36) 23 rfl c5 c6 ?_
    exact s_iret 24 rfl rfl h
  · have hb := Classical.not_not.mp hb
    have b7 := hb
    replace h := h.2 hb
    refine s_aload_n (q := 18) 11 1 rfl rfl ?_
    refine n_getf (q := 21) (jj := 3) 12 12 3 rfl kX12_13 c3 ?_
    refine s_iload_n (q := 22) 13 0 rfl rfl ?_
    refine s_iconst (q := 23) 14 rfl ?_
    obtain ⟨c8, h⟩ := h
    refine n_iadd (q := 24) 15 rfl c8 ?_
    obtain ⟨c9, h⟩ := h
    refine n_iald (q := 25) 16 rfl c5 c9 ?_
    refine s_goto (tgt := 36) 17 rfl rfl ?_
    exact s_iret 24 rfl rfl h
theorem vX12_wanted_0 {l : Launch} {G : pG} {bg : Nat × Nat} {n : Nat} {K : Int → Nat × Nat} {F E : Int → Int → Int} {Q : Option pV → pM → Prop} (x0 x1 x2 x3 : Int) (h : (K x0).1 = 12 ∧ PC l G 1 mX12_otherThan (0, 0) [(2, x0), (0, x2), (0, x3)] (n, K, F, E) (fun r μ => PW l G 2 mX12_wanted bg 6 [(0, (2, x0)), (1, (0, x1)), (2, (0, x2))] (r.toList ++ []) μ Q)) : PW l G 2 mX12_wanted bg 0 [(0, (2, x0)), (1, (0, x1)), (2, (0, x2)), (3, (0, x3))] [] (n, K, F, E) Q := by
  refine s_aload_n (q := 1) 0 0 rfl rfl ?_
  refine s_iload_n (q := 2) 1 2 rfl rfl ?_
  refine s_iload_n (q := 3) 2 3 rfl rfl ?_
  obtain ⟨c1, h⟩ := h
  refine PW.pick [0, 1, 2] rfl ?_
  exact n_callV (N := mX12_otherThan) (as := [(0, x2), (0, x3)]) (st := []) (q := 6) (d' := 1) 3 rfl uX12_otherThan kX12_458 rfl c1 h
theorem vX12_wanted_6 {l : Launch} {G : pG} {bg : Nat × Nat} {n : Nat} {K : Int → Nat × Nat} {F E : Int → Int → Int} {Q : Option pV → pM → Prop} (x0 x1 x2 s0 : Int) (h : (K x0).1 = 12 ∧ PC l G 1 mX12_fieldIn (0, 0) [(2, x0), (0, x2), (0, s0)] (n, K, F, E) (fun r μ => PW l G 2 mX12_wanted bg 19 [] (r.toList ++ [(0, s0), (0, x1), (2, x0)]) μ Q)) : PW l G 2 mX12_wanted bg 6 [(0, (2, x0)), (1, (0, x1)), (2, (0, x2))] [(0, s0)] (n, K, F, E) Q := by
  refine s_istore (q := 8) (lv' := [(4, (0, s0)), (0, (2, x0)), (1, (0, x1)), (2, (0, x2))]) 4 rfl rfl ?_
  refine s_aload_n (q := 9) 5 1 rfl rfl ?_
  refine s_iload_n (q := 10) 6 2 rfl rfl ?_
  refine s_iload (q := 12) 7 0 rfl rfl ?_
  refine s_aload_n (q := 13) 8 1 rfl rfl ?_
  refine s_iload_n (q := 14) 9 3 rfl rfl ?_
  refine s_iload (q := 16) 10 0 rfl rfl ?_
  obtain ⟨c1, h⟩ := h
  refine PW.pick [] rfl ?_
  exact n_callV (N := mX12_fieldIn) (as := [(0, x2), (0, s0)]) (st := [(0, s0), (0, x1), (2, x0)]) (q := 19) (d' := 1) 11 rfl uX12_fieldIn kX12_461 rfl c1 h
theorem vX12_wanted_19 {l : Launch} {G : pG} {bg : Nat × Nat} {n : Nat} {K : Int → Nat × Nat} {F E : Int → Int → Int} {Q : Option pV → pM → Prop} (s0 s1 s2 s3 : Int) (h : (K s3).1 = 12 ∧ PC l G 1 mX12_fieldOf (0, 0) [(2, s3), (0, s2), (0, s1), (0, s0)] (n, K, F, E) (fun r μ => PW l G 2 mX12_wanted bg 22 [] (r.toList ++ []) μ Q)) : PW l G 2 mX12_wanted bg 19 [] [(0, s0), (0, s1), (0, s2), (2, s3)] (n, K, F, E) Q := by
  obtain ⟨c1, h⟩ := h
  refine PW.pick [] rfl ?_
  exact n_callV (N := mX12_fieldOf) (as := [(0, s2), (0, s1), (0, s0)]) (st := []) (q := 22) (d' := 1) 12 rfl uX12_fieldOf kX12_464 rfl c1 h
theorem vX12_wanted_22 {l : Launch} {G : pG} {bg : Nat × Nat} {n : Nat} {K : Int → Nat × Nat} {F E : Int → Int → Int} {Q : Option pV → pM → Prop} (s0 : Int) (h : Q (some (0, s0)) (n, K, F, E)) : PW l G 2 mX12_wanted bg 22 [] [(0, s0)] (n, K, F, E) Q := by
  exact s_iret 13 rfl rfl h
theorem vX12_sizeFor_0 {l : Launch} {G : pG} {bg : Nat × Nat} {n : Nat} {K : Int → Nat × Nat} {F E : Int → Int → Int} {Q : Option pV → pM → Prop} (x0 x1 x2 x3 : Int) (h : ((¬ x3 = (-1) → (K x0).1 = 12 ∧ PC l G 1 mX12_fieldIn (0, 0) [(2, x0), (0, x2), (0, x3)] (n, K, F, E) (fun r μ => PW l G 3 mX12_sizeFor bg 13 [(0, (2, x0)), (1, (0, x1)), (2, (0, x2)), (3, (0, x3))] (r.toList ++ []) μ Q)) ∧ (x3 = (-1) → Q (some (0, 1)) (n, K, F, E)))) : PW l G 3 mX12_sizeFor bg 0 [(0, (2, x0)), (1, (0, x1)), (2, (0, x2)), (3, (0, x3))] [] (n, K, F, E) Q := by
  refine s_iload_n (q := 1) 0 3 rfl rfl ?_
  refine s_iconst (q := 2) 1 rfl ?_
  refine s_icmp_ne (q := 5) (tgt := 7) 2 rfl rfl (fun hb => ?_) (fun hb => ?_)
  · skip
    have b1 := hb
    replace h := h.1 hb
    refine s_aload_n (q := 8) 5 0 rfl rfl ?_
    refine s_iload_n (q := 9) 6 2 rfl rfl ?_
    refine s_iload_n (q := 10) 7 3 rfl rfl ?_
    obtain ⟨c2, h⟩ := h
    refine PW.pick [0, 1, 2, 3] rfl ?_
    exact n_callV (N := mX12_fieldIn) (as := [(0, x2), (0, x3)]) (st := []) (q := 13) (d' := 1) 8 rfl uX12_fieldIn kX12_461 rfl c2 h
  · have hb := Classical.not_not.mp hb
    have b1 := hb
    replace h := h.2 hb
    refine s_iconst (q := 6) 3 rfl ?_
    exact s_iret 4 rfl rfl h
theorem vX12_sizeFor_13 {l : Launch} {G : pG} {bg : Nat × Nat} {n : Nat} {K : Int → Nat × Nat} {F E : Int → Int → Int} {Q : Option pV → pM → Prop} (x0 x1 x2 x3 s0 : Int) (h : (K x0).1 = 12 ∧ (-2147483648 ≤ 12 + x3 ∧ 12 + x3 < 2147483648) ∧ (K (F x0 3)).1 = 20 ∧ ((0 : Int) ≤ 12 + x3 ∧ 12 + x3 < ((K (F x0 3)).2 : Int)) ∧ ((E (F x0 3) (12 + x3) = s0 → PW l G 3 mX12_sizeFor bg 45 [(0, (2, x0)), (1, (0, x1)), (2, (0, x2)), (3, (0, x3)), (4, (0, s0)), (5, (0, 0)), (6, (0, 0))] [] (n, K, F, E) Q) ∧ (¬ (E (F x0 3) (12 + x3) = s0) → (-2147483648 ≤ 15 + x3 ∧ 15 + x3 < 2147483648) ∧ ((0 : Int) ≤ 15 + x3 ∧ 15 + x3 < ((K (F x0 3)).2 : Int)) ∧ Q (some (0, E (F x0 3) (15 + x3))) (n, K, F, E)))) : PW l G 3 mX12_sizeFor bg 13 [(0, (2, x0)), (1, (0, x1)), (2, (0, x2)), (3, (0, x3))] [(0, s0)] (n, K, F, E) Q := by
  refine s_istore (q := 15) (lv' := [(4, (0, s0)), (0, (2, x0)), (1, (0, x1)), (2, (0, x2)), (3, (0, x3))]) 9 rfl rfl ?_
  refine s_aload_n (q := 16) 10 1 rfl rfl ?_
  obtain ⟨c1, h⟩ := h
  refine n_getf (q := 19) (jj := 3) 11 12 3 rfl kX12_13 c1 ?_
  refine s_bipush (q := 21) 12 rfl ?_
  refine s_iload_n (q := 22) 13 4 rfl rfl ?_
  obtain ⟨c2, h⟩ := h
  refine n_iadd (q := 23) 14 rfl c2 ?_
  obtain ⟨c3, h⟩ := h
  obtain ⟨c4, h⟩ := h
  refine n_iald (q := 24) 15 rfl c3 c4 ?_
  refine s_iload (q := 26) 16 0 rfl rfl ?_
  refine s_icmp_eq (q := 29) (tgt := 39) 17 rfl rfl (fun hb => ?_) (fun hb => ?_)
  · skip
    have b5 := hb
    replace h := h.1 hb
    refine s_iconst (q := 40) 25 rfl ?_
    refine s_istore (q := 42) (lv' := [(5, (0, 0)), (4, (0, s0)), (0, (2, x0)), (1, (0, x1)), (2, (0, x2)), (3, (0, x3))]) 26 rfl rfl ?_
    refine s_iconst (q := 43) 27 rfl ?_
    refine s_istore (q := 45) (lv' := [(6, (0, 0)), (5, (0, 0)), (4, (0, s0)), (0, (2, x0)), (1, (0, x1)), (2, (0, x2)), (3, (0, x3))]) 28 rfl rfl ?_
    refine PW.pick [3, 4, 5, 6, 2, 1, 0] rfl ?_
    exact h
  · skip
    have b5 := hb
    replace h := h.2 hb
    refine s_aload_n (q := 30) 18 1 rfl rfl ?_
    refine n_getf (q := 33) (jj := 3) 19 12 3 rfl kX12_13 c1 ?_
    refine s_bipush (q := 35) 20 rfl ?_
    refine s_iload_n (q := 36) 21 4 rfl rfl ?_
    obtain ⟨c6, h⟩ := h
    refine n_iadd (q := 37) 22 rfl c6 ?_
    obtain ⟨c7, h⟩ := h
    refine n_iald (q := 38) 23 rfl c3 c7 ?_
    exact s_iret 24 rfl rfl h
theorem vX12_sizeFor_45 {l : Launch} {G : pG} {bg : Nat × Nat} {n : Nat} {K : Int → Nat × Nat} {F E : Int → Int → Int} {Q : Option pV → pM → Prop} (x0 x1 x2 x3 x4 x5 x6 : Int) (h : (K x0).1 = 12 ∧ (-2147483648 ≤ 15 + x3 ∧ 15 + x3 < 2147483648) ∧ (K (F x0 3)).1 = 20 ∧ ((0 : Int) ≤ 15 + x3 ∧ 15 + x3 < ((K (F x0 3)).2 : Int)) ∧ ((E (F x0 3) (15 + x3) ≤ x6 → Q (some (0, x5)) (n, K, F, E)) ∧ (¬ (E (F x0 3) (15 + x3) ≤ x6) → (-2147483648 ≤ 27 * x3 ∧ 27 * x3 < 2147483648) ∧ (-2147483648 ≤ 42 + (27 * x3) ∧ 42 + (27 * x3) < 2147483648) ∧ (-2147483648 ≤ 3 * x6 ∧ 3 * x6 < 2147483648) ∧ (-2147483648 ≤ (42 + (27 * x3)) + (3 * x6) ∧ (42 + (27 * x3)) + (3 * x6) < 2147483648) ∧ (-2147483648 ≤ ((42 + (27 * x3)) + (3 * x6)) + x4 ∧ ((42 + (27 * x3)) + (3 * x6)) + x4 < 2147483648) ∧ ((0 : Int) ≤ ((42 + (27 * x3)) + (3 * x6)) + x4 ∧ ((42 + (27 * x3)) + (3 * x6)) + x4 < ((K (F x0 3)).2 : Int)) ∧ (∀ a1, a1 = E (F x0 3) (((42 + (27 * x3)) + (3 * x6)) + x4) → (-2147483648 ≤ a1 * a1 ∧ a1 * a1 < 2147483648) ∧ (-2147483648 ≤ (a1 * a1) * 7 ∧ (a1 * a1) * 7 < 2147483648) ∧ (-2147483648 ≤ ((a1 * a1) * 7) + 3 ∧ ((a1 * a1) * 7) + 3 < 2147483648) ∧ PC l G 2 mX12_wanted (0, 0) [(2, x0), (0, x1), (0, x2), (0, x3)] (n, K, F, E) (fun r μ => PW l G 3 mX12_sizeFor bg 85 [(0, (2, x0)), (1, (0, x1)), (2, (0, x2)), (3, (0, x3)), (4, (0, x4)), (6, (0, x6))] (r.toList ++ [(0, (((a1 * a1) * 7) + 3).tmod 5), (0, x5)]) μ Q))))) : PW l G 3 mX12_sizeFor bg 45 [(0, (2, x0)), (1, (0, x1)), (2, (0, x2)), (3, (0, x3)), (4, (0, x4)), (5, (0, x5)), (6, (0, x6))] [] (n, K, F, E) Q := by
  refine s_iload (q := 47) 29 6 rfl rfl ?_
  refine s_aload_n (q := 48) 30 0 rfl rfl ?_
  obtain ⟨c1, h⟩ := h
  refine n_getf (q := 51) (jj := 3) 31 12 3 rfl kX12_13 c1 ?_
  refine s_bipush (q := 53) 32 rfl ?_
  refine s_iload_n (q := 54) 33 3 rfl rfl ?_
  obtain ⟨c2, h⟩ := h
  refine n_iadd (q := 55) 34 rfl c2 ?_
  obtain ⟨c3, h⟩ := h
  obtain ⟨c4, h⟩ := h
  refine n_iald (q := 56) 35 rfl c3 c4 ?_
  refine s_icmp_ge (q := 59) (tgt := 105) 36 rfl rfl (fun hb => ?_) (fun hb => ?_)
  · skip
    have b5 := hb
    replace h := h.1 hb
    refine s_iload (q := 107) 61 5 rfl rfl ?_
    exact s_iret 62 rfl rfl h
  · skip
    have b5 := hb
    replace h := h.2 hb
    refine s_iload (q := 61) 37 5 rfl rfl ?_
    refine s_aload_n (q := 62) 38 0 rfl rfl ?_
    refine n_getf (q := 65) (jj := 3) 39 12 3 rfl kX12_13 c1 ?_
    refine s_iload_n (q := 66) 40 3 rfl rfl ?_
    refine s_iload (q := 68) 41 6 rfl rfl ?_
    refine n_callS (N := mX12_tupleAt) (as := [(0, x3), (0, x6)]) (st := [(2, F x0 3), (0, x5)]) (q := 71) (d' := 0) 42 rfl uX12_tupleAt kX12_225 rfl ?_
    show PW l G 0 mX12_tupleAt (0, 0) 0 [(0, (0, x3)), (1, (0, x6))] [] (n, K, F, E) _
    refine s_bipush (q := 2) 0 rfl ?_
    refine s_bipush (q := 4) 1 rfl ?_
    refine s_iload_n (q := 5) 2 0 rfl rfl ?_
    obtain ⟨c6, h⟩ := h
    refine n_imul (q := 6) 3 rfl c6 ?_
    obtain ⟨c7, h⟩ := h
    refine n_iadd (q := 7) 4 rfl c7 ?_
    refine s_iconst (q := 8) 5 rfl ?_
    refine s_iload_n (q := 9) 6 1 rfl rfl ?_
    obtain ⟨c8, h⟩ := h
    refine n_imul (q := 10) 7 rfl c8 ?_
    obtain ⟨c9, h⟩ := h
    refine n_iadd (q := 11) 8 rfl c9 ?_
    refine s_iret 9 rfl rfl ?_
    show PW l G 3 mX12_sizeFor bg 71 [(0, (2, x0)), (1, (0, x1)), (2, (0, x2)), (3, (0, x3)), (4, (0, x4)), (5, (0, x5)), (6, (0, x6))] [(0, (42 + (27 * x3)) + (3 * x6)), (2, F x0 3), (0, x5)] (n, K, F, E) Q
    refine s_iload (q := 73) 43 4 rfl rfl ?_
    obtain ⟨c10, h⟩ := h
    refine n_iadd (q := 74) 44 rfl c10 ?_
    obtain ⟨c11, h⟩ := h
    refine n_iald (q := 75) 45 rfl c3 c11 ?_
    refine PW.name (fun a1 ea1 => ?_)
    replace h := h a1 ea1
    refine n_callS (N := mX12_bucketOf) (as := [(0, a1)]) (st := [(0, x5)]) (q := 78) (d' := 0) 46 rfl uX12_bucketOf kX12_467 rfl ?_
    show PW l G 0 mX12_bucketOf (0, 0) 0 [(0, (0, a1))] [] (n, K, F, E) _
    refine s_iload_n (q := 1) 0 0 rfl rfl ?_
    refine s_iload_n (q := 2) 1 0 rfl rfl ?_
    obtain ⟨c12, h⟩ := h
    refine n_imul (q := 3) 2 rfl c12 ?_
    refine s_bipush (q := 5) 3 rfl ?_
    obtain ⟨c13, h⟩ := h
    refine n_imul (q := 6) 4 rfl c13 ?_
    refine s_iconst (q := 7) 5 rfl ?_
    obtain ⟨c14, h⟩ := h
    refine n_iadd (q := 8) 6 rfl c14 ?_
    refine s_iconst (q := 9) 7 rfl ?_
    refine s_irem (q := 10) 8 rfl (by decide) ?_
    refine s_iret 9 rfl rfl ?_
    show PW l G 3 mX12_sizeFor bg 78 [(0, (2, x0)), (1, (0, x1)), (2, (0, x2)), (3, (0, x3)), (4, (0, x4)), (5, (0, x5)), (6, (0, x6))] [(0, (((a1 * a1) * 7) + 3).tmod 5), (0, x5)] (n, K, F, E) Q
    refine s_aload_n (q := 79) 47 0 rfl rfl ?_
    refine s_iload_n (q := 80) 48 1 rfl rfl ?_
    refine s_iload_n (q := 81) 49 2 rfl rfl ?_
    refine s_iload_n (q := 82) 50 3 rfl rfl ?_
    refine PW.pick [0, 1, 2, 3, 4, 6] rfl ?_
    exact n_callV (N := mX12_wanted) (as := [(0, x1), (0, x2), (0, x3)]) (st := [(0, (((a1 * a1) * 7) + 3).tmod 5), (0, x5)]) (q := 85) (d' := 2) 51 rfl uX12_wanted kX12_470 rfl c1 h
theorem vX12_sizeFor_85 {l : Launch} {G : pG} {bg : Nat × Nat} {n : Nat} {K : Int → Nat × Nat} {F E : Int → Int → Int} {Q : Option pV → pM → Prop} (x0 x1 x2 x3 x4 x6 s0 s1 s2 : Int) (h : (-2147483648 ≤ s0 * s0 ∧ s0 * s0 < 2147483648) ∧ (-2147483648 ≤ (s0 * s0) * 7 ∧ (s0 * s0) * 7 < 2147483648) ∧ (-2147483648 ≤ ((s0 * s0) * 7) + 3 ∧ ((s0 * s0) * 7) + 3 < 2147483648) ∧ ((¬ s1 = (((s0 * s0) * 7) + 3).tmod 5 → (-2147483648 ≤ s2 + 0 ∧ s2 + 0 < 2147483648) ∧ (-2147483648 ≤ x6 + 1 ∧ x6 + 1 < 2147483648) ∧ PW l G 3 mX12_sizeFor bg 45 [(0, (2, x0)), (1, (0, x1)), (2, (0, x2)), (3, (0, x3)), (4, (0, x4)), (5, (0, s2 + 0)), (6, (0, x6 + 1))] [] (n, K, F, E) Q) ∧ (s1 = (((s0 * s0) * 7) + 3).tmod 5 → (-2147483648 ≤ s2 + 1 ∧ s2 + 1 < 2147483648) ∧ (-2147483648 ≤ x6 + 1 ∧ x6 + 1 < 2147483648) ∧ PW l G 3 mX12_sizeFor bg 45 [(0, (2, x0)), (1, (0, x1)), (2, (0, x2)), (3, (0, x3)), (4, (0, x4)), (5, (0, s2 + 1)), (6, (0, x6 + 1))] [] (n, K, F, E) Q))) : PW l G 3 mX12_sizeFor bg 85 [(0, (2, x0)), (1, (0, x1)), (2, (0, x2)), (3, (0, x3)), (4, (0, x4)), (6, (0, x6))] [(0, s0), (0, s1), (0, s2)] (n, K, F, E) Q := by
  refine n_callS (N := mX12_bucketOf) (as := [(0, s0)]) (st := [(0, s1), (0, s2)]) (q := 88) (d' := 0) 52 rfl uX12_bucketOf kX12_467 rfl ?_
  show PW l G 0 mX12_bucketOf (0, 0) 0 [(0, (0, s0))] [] (n, K, F, E) _
  refine s_iload_n (q := 1) 0 0 rfl rfl ?_
  refine s_iload_n (q := 2) 1 0 rfl rfl ?_
  obtain ⟨c1, h⟩ := h
  refine n_imul (q := 3) 2 rfl c1 ?_
  refine s_bipush (q := 5) 3 rfl ?_
  obtain ⟨c2, h⟩ := h
  refine n_imul (q := 6) 4 rfl c2 ?_
  refine s_iconst (q := 7) 5 rfl ?_
  obtain ⟨c3, h⟩ := h
  refine n_iadd (q := 8) 6 rfl c3 ?_
  refine s_iconst (q := 9) 7 rfl ?_
  refine s_irem (q := 10) 8 rfl (by decide) ?_
  refine s_iret 9 rfl rfl ?_
  show PW l G 3 mX12_sizeFor bg 88 [(0, (2, x0)), (1, (0, x1)), (2, (0, x2)), (3, (0, x3)), (4, (0, x4)), (6, (0, x6))] [(0, (((s0 * s0) * 7) + 3).tmod 5), (0, s1), (0, s2)] (n, K, F, E) Q
  refine s_icmp_ne (q := 91) (tgt := 95) 53 rfl rfl (fun hb => ?_) (fun hb => ?_)
  · skip
    have b4 := hb
    replace h := h.1 hb
    refine s_iconst (q := 96) 56 rfl ?_
    obtain ⟨c5, h⟩ := h
    refine n_iadd (q := 97) 57 rfl c5 ?_
    refine s_istore (q := 99) (lv' := [(5, (0, s2 + 0)), (0, (2, x0)), (1, (0, x1)), (2, (0, x2)), (3, (0, x3)), (4, (0, x4)), (6, (0, x6))]) 58 rfl rfl ?_
    obtain ⟨c6, h⟩ := h
    refine n_iinc (q := 102) (lv' := [(6, (0, x6 + 1)), (5, (0, s2 + 0)), (0, (2, x0)), (1, (0, x1)), (2, (0, x2)), (3, (0, x3)), (4, (0, x4))]) 59 6 rfl rfl c6 rfl ?_
    refine s_goto (tgt := 45) 60 rfl rfl ?_
    refine PW.pick [2, 3, 4, 5, 6, 1, 0] rfl ?_
    exact h
  · have hb := Classical.not_not.mp hb
    have b4 := hb
    replace h := h.2 hb
    refine s_iconst (q := 92) 54 rfl ?_
    refine s_goto (tgt := 96) 55 rfl rfl ?_
    obtain ⟨c7, h⟩ := h
    refine n_iadd (q := 97) 57 rfl c7 ?_
    refine s_istore (q := 99) (lv' := [(5, (0, s2 + 1)), (0, (2, x0)), (1, (0, x1)), (2, (0, x2)), (3, (0, x3)), (4, (0, x4)), (6, (0, x6))]) 58 rfl rfl ?_
    obtain ⟨c8, h⟩ := h
    refine n_iinc (q := 102) (lv' := [(6, (0, x6 + 1)), (5, (0, s2 + 1)), (0, (2, x0)), (1, (0, x1)), (2, (0, x2)), (3, (0, x3)), (4, (0, x4))]) 59 6 rfl rfl c8 rfl ?_
    refine s_goto (tgt := 45) 60 rfl rfl ?_
    refine PW.pick [2, 3, 4, 5, 6, 1, 0] rfl ?_
    exact h
theorem vX12_holds_0 {l : Launch} {G : pG} {bg : Nat × Nat} {n : Nat} {K : Int → Nat × Nat} {F E : Int → Int → Int} {Q : Option pV → pM → Prop} (x0 x1 x2 : Int) (h : (-2147483648 ≤ 6 * x2 ∧ 6 * x2 < 2147483648) ∧ (-2147483648 ≤ 18 + (6 * x2) ∧ 18 + (6 * x2) < 2147483648) ∧ (K x0).1 = 12 ∧ (-2147483648 ≤ (18 + (6 * x2)) + 1 ∧ (18 + (6 * x2)) + 1 < 2147483648) ∧ (K (F x0 3)).1 = 20 ∧ ((0 : Int) ≤ (18 + (6 * x2)) + 1 ∧ (18 + (6 * x2)) + 1 < ((K (F x0 3)).2 : Int)) ∧ (-2147483648 ≤ (18 + (6 * x2)) + 2 ∧ (18 + (6 * x2)) + 2 < 2147483648) ∧ ((0 : Int) ≤ (18 + (6 * x2)) + 2 ∧ (18 + (6 * x2)) + 2 < ((K (F x0 3)).2 : Int)) ∧ PC l G 1 mX12_fieldOf (0, 0) [(2, x0), (0, x1), (0, E (F x0 3) ((18 + (6 * x2)) + 1)), (0, E (F x0 3) ((18 + (6 * x2)) + 2))] (n, K, F, E) (fun r μ => PW l G 2 mX12_holds bg 26 [(0, (2, x0)), (1, (0, x1)), (3, (0, 18 + (6 * x2)))] (r.toList ++ []) μ Q)) : PW l G 2 mX12_holds bg 0 [(0, (2, x0)), (1, (0, x1)), (2, (0, x2))] [] (n, K, F, E) Q := by
  refine s_iload_n (q := 1) 0 2 rfl rfl ?_
  refine n_callS (N := mX12_operatorAt) (as := [(0, x2)]) (st := []) (q := 4) (d' := 0) 1 rfl uX12_operatorAt kX12_210 rfl ?_
  show PW l G 0 mX12_operatorAt (0, 0) 0 [(0, (0, x2))] [] (n, K, F, E) _
  refine s_bipush (q := 2) 0 rfl ?_
  refine s_bipush (q := 4) 1 rfl ?_
  refine s_iload_n (q := 5) 2 0 rfl rfl ?_
  obtain ⟨c1, h⟩ := h
  refine n_imul (q := 6) 3 rfl c1 ?_
  obtain ⟨c2, h⟩ := h
  refine n_iadd (q := 7) 4 rfl c2 ?_
  refine s_iret 5 rfl rfl ?_
  show PW l G 2 mX12_holds bg 4 [(0, (2, x0)), (1, (0, x1)), (2, (0, x2))] [(0, 18 + (6 * x2))] (n, K, F, E) Q
  refine s_istore_n (q := 5) (lv' := [(3, (0, 18 + (6 * x2))), (0, (2, x0)), (1, (0, x1)), (2, (0, x2))]) 2 rfl rfl ?_
  refine s_aload_n (q := 6) 3 1 rfl rfl ?_
  refine s_iload_n (q := 7) 4 2 rfl rfl ?_
  refine s_aload_n (q := 8) 5 1 rfl rfl ?_
  obtain ⟨c3, h⟩ := h
  refine n_getf (q := 11) (jj := 3) 6 12 3 rfl kX12_13 c3 ?_
  refine s_iload_n (q := 12) 7 0 rfl rfl ?_
  refine s_iconst (q := 13) 8 rfl ?_
  obtain ⟨c4, h⟩ := h
  refine n_iadd (q := 14) 9 rfl c4 ?_
  obtain ⟨c5, h⟩ := h
  obtain ⟨c6, h⟩ := h
  refine n_iald (q := 15) 10 rfl c5 c6 ?_
  refine s_aload_n (q := 16) 11 1 rfl rfl ?_
  refine n_getf (q := 19) (jj := 3) 12 12 3 rfl kX12_13 c3 ?_
  refine s_iload_n (q := 20) 13 0 rfl rfl ?_
  refine s_iconst (q := 21) 14 rfl ?_
  obtain ⟨c7, h⟩ := h
  refine n_iadd (q := 22) 15 rfl c7 ?_
  obtain ⟨c8, h⟩ := h
  refine n_iald (q := 23) 16 rfl c5 c8 ?_
  refine PW.pick [1, 2, 0] rfl ?_
  exact n_callV (N := mX12_fieldOf) (as := [(0, x1), (0, E (F x0 3) ((18 + (6 * x2)) + 1)), (0, E (F x0 3) ((18 + (6 * x2)) + 2))]) (st := []) (q := 26) (d' := 1) 17 rfl uX12_fieldOf kX12_464 rfl c3 h
theorem vX12_holds_26 {l : Launch} {G : pG} {bg : Nat × Nat} {n : Nat} {K : Int → Nat × Nat} {F E : Int → Int → Int} {Q : Option pV → pM → Prop} (x0 x1 x3 s0 : Int) (h : (K x0).1 = 12 ∧ (-2147483648 ≤ x3 + 0 ∧ x3 + 0 < 2147483648) ∧ (K (F x0 3)).1 = 20 ∧ ((0 : Int) ≤ x3 + 0 ∧ x3 + 0 < ((K (F x0 3)).2 : Int)) ∧ ((¬ (E (F x0 3) (x3 + 0)) = 0 → (-2147483648 ≤ x3 + 4 ∧ x3 + 4 < 2147483648) ∧ ((0 : Int) ≤ x3 + 4 ∧ x3 + 4 < ((K (F x0 3)).2 : Int)) ∧ (-2147483648 ≤ x3 + 3 ∧ x3 + 3 < 2147483648) ∧ ((0 : Int) ≤ x3 + 3 ∧ x3 + 3 < ((K (F x0 3)).2 : Int)) ∧ ((¬ (E (F x0 3) (x3 + 3)) = 0 → ((¬ (E (F x0 3) (x3 + 3)) = 1 → ((s0 ≤ E (F x0 3) (x3 + 4) → Q (some (0, 0)) (n, K, F, E)) ∧ (¬ (s0 ≤ E (F x0 3) (x3 + 4)) → Q (some (0, 1)) (n, K, F, E)))) ∧ ((E (F x0 3) (x3 + 3)) = 1 → ((¬ s0 = E (F x0 3) (x3 + 4) → Q (some (0, 0)) (n, K, F, E)) ∧ (s0 = E (F x0 3) (x3 + 4) → Q (some (0, 1)) (n, K, F, E)))))) ∧ ((E (F x0 3) (x3 + 3)) = 0 → ((E (F x0 3) (x3 + 4) ≤ s0 → Q (some (0, 0)) (n, K, F, E)) ∧ (¬ (E (F x0 3) (x3 + 4) ≤ s0) → Q (some (0, 1)) (n, K, F, E)))))) ∧ ((E (F x0 3) (x3 + 0)) = 0 → (-2147483648 ≤ x3 + 3 ∧ x3 + 3 < 2147483648) ∧ ((0 : Int) ≤ x3 + 3 ∧ x3 + 3 < ((K (F x0 3)).2 : Int)) ∧ (-2147483648 ≤ x3 + 4 ∧ x3 + 4 < 2147483648) ∧ ((0 : Int) ≤ x3 + 4 ∧ x3 + 4 < ((K (F x0 3)).2 : Int)) ∧ PC l G 1 mX12_fieldOf (0, 0) [(2, x0), (0, x1), (0, E (F x0 3) (x3 + 3)), (0, E (F x0 3) (x3 + 4))] (n, K, F, E) (fun r μ => PW l G 2 mX12_holds bg 62 [] (r.toList ++ [(0, s0)]) μ Q)))) : PW l G 2 mX12_holds bg 26 [(0, (2, x0)), (1, (0, x1)), (3, (0, x3))] [(0, s0)] (n, K, F, E) Q := by
  refine s_istore (q := 28) (lv' := [(4, (0, s0)), (0, (2, x0)), (1, (0, x1)), (3, (0, x3))]) 18 rfl rfl ?_
  refine s_aload_n (q := 29) 19 1 rfl rfl ?_
  obtain ⟨c1, h⟩ := h
  refine n_getf (q := 32) (jj := 3) 20 12 3 rfl kX12_13 c1 ?_
  refine s_iload_n (q := 33) 21 3 rfl rfl ?_
  refine s_iconst (q := 34) 22 rfl ?_
  obtain ⟨c2, h⟩ := h
  refine n_iadd (q := 35) 23 rfl c2 ?_
  obtain ⟨c3, h⟩ := h
  obtain ⟨c4, h⟩ := h
  refine n_iald (q := 36) 24 rfl c3 c4 ?_
  refine s_if_ne (q := 39) (tgt := 71) 25 rfl rfl (fun hb => ?_) (fun hb => ?_)
  · skip
    have b5 := hb
    replace h := h.1 hb
    refine s_aload_n (q := 72) 47 1 rfl rfl ?_
    refine n_getf (q := 75) (jj := 3) 48 12 3 rfl kX12_13 c1 ?_
    refine s_iload_n (q := 76) 49 3 rfl rfl ?_
    refine s_iconst (q := 77) 50 rfl ?_
    obtain ⟨c6, h⟩ := h
    refine n_iadd (q := 78) 51 rfl c6 ?_
    obtain ⟨c7, h⟩ := h
    refine n_iald (q := 79) 52 rfl c3 c7 ?_
    refine s_istore (q := 81) (lv' := [(5, (0, E (F x0 3) (x3 + 4))), (4, (0, s0)), (0, (2, x0)), (1, (0, x1)), (3, (0, x3))]) 53 rfl rfl ?_
    refine s_aload_n (q := 82) 54 2 rfl rfl ?_
    refine n_getf (q := 85) (jj := 3) 55 12 3 rfl kX12_13 c1 ?_
    refine s_iload_n (q := 86) 56 4 rfl rfl ?_
    refine s_iconst (q := 87) 57 rfl ?_
    obtain ⟨c8, h⟩ := h
    refine n_iadd (q := 88) 58 rfl c8 ?_
    obtain ⟨c9, h⟩ := h
    refine n_iald (q := 89) 59 rfl c3 c9 ?_
    refine s_if_ne (q := 92) (tgt := 107) 60 rfl rfl (fun hb => ?_) (fun hb => ?_)
    · skip
      have b10 := hb
      replace h := h.1 hb
      refine s_aload_n (q := 108) 68 2 rfl rfl ?_
      refine n_getf (q := 111) (jj := 3) 69 12 3 rfl kX12_13 c1 ?_
      refine s_iload_n (q := 112) 70 4 rfl rfl ?_
      refine s_iconst (q := 113) 71 rfl ?_
      refine n_iadd (q := 114) 72 rfl c8 ?_
      refine n_iald (q := 115) 73 rfl c3 c9 ?_
      refine s_iconst (q := 116) 74 rfl ?_
      refine s_icmp_ne (q := 119) (tgt := 134) 75 rfl rfl (fun hb => ?_) (fun hb => ?_)
      · skip
        have b11 := hb
        replace h := h.1 hb
        refine s_iload (q := 136) 83 1 rfl rfl ?_
        refine s_iload (q := 138) 84 0 rfl rfl ?_
        refine s_icmp_le (q := 141) (tgt := 145) 85 rfl rfl (fun hb => ?_) (fun hb => ?_)
        · skip
          have b12 := hb
          replace h := h.1 hb
          refine s_iconst (q := 146) 88 rfl ?_
          exact s_zret 89 rfl rfl (by decide) h
        · skip
          have b12 := hb
          replace h := h.2 hb
          refine s_iconst (q := 142) 86 rfl ?_
          refine s_goto (tgt := 146) 87 rfl rfl ?_
          exact s_zret 89 rfl rfl (by decide) h
      · have hb := Classical.not_not.mp hb
        have b11 := hb
        replace h := h.2 hb
        refine s_iload (q := 121) 76 1 rfl rfl ?_
        refine s_iload (q := 123) 77 0 rfl rfl ?_
        refine s_icmp_ne (q := 126) (tgt := 130) 78 rfl rfl (fun hb => ?_) (fun hb => ?_)
        · skip
          have b13 := hb
          replace h := h.1 hb
          refine s_iconst (q := 131) 81 rfl ?_
          refine s_goto (tgt := 146) 82 rfl rfl ?_
          exact s_zret 89 rfl rfl (by decide) h
        · have hb := Classical.not_not.mp hb
          have b13 := hb
          replace h := h.2 hb
          refine s_iconst (q := 127) 79 rfl ?_
          refine s_goto (tgt := 146) 80 rfl rfl ?_
          exact s_zret 89 rfl rfl (by decide) h
    · have hb := Classical.not_not.mp hb
      have b10 := hb
      replace h := h.2 hb
      refine s_iload (q := 94) 61 1 rfl rfl ?_
      refine s_iload (q := 96) 62 0 rfl rfl ?_
      refine s_icmp_ge (q := 99) (tgt := 103) 63 rfl rfl (fun hb => ?_) (fun hb => ?_)
      · skip
        have b14 := hb
        replace h := h.1 hb
        refine s_iconst (q := 104) 66 rfl ?_
        refine s_goto (tgt := 146) 67 rfl rfl ?_
        exact s_zret 89 rfl rfl (by decide) h
      · skip
        have b14 := hb
        replace h := h.2 hb
        refine s_iconst (q := 100) 64 rfl ?_
        refine s_goto (tgt := 146) 65 rfl rfl ?_
        exact s_zret 89 rfl rfl (by decide) h
  · have hb := Classical.not_not.mp hb
    have b5 := hb
    replace h := h.2 hb
    refine s_iload (q := 41) 26 0 rfl rfl ?_
    refine s_aload_n (q := 42) 27 1 rfl rfl ?_
    refine s_iload_n (q := 43) 28 2 rfl rfl ?_
    refine s_aload_n (q := 44) 29 1 rfl rfl ?_
    refine n_getf (q := 47) (jj := 3) 30 12 3 rfl kX12_13 c1 ?_
    refine s_iload_n (q := 48) 31 3 rfl rfl ?_
    refine s_iconst (q := 49) 32 rfl ?_
    obtain ⟨c15, h⟩ := h
    refine n_iadd (q := 50) 33 rfl c15 ?_
    obtain ⟨c16, h⟩ := h
    refine n_iald (q := 51) 34 rfl c3 c16 ?_
    refine s_aload_n (q := 52) 35 1 rfl rfl ?_
    refine n_getf (q := 55) (jj := 3) 36 12 3 rfl kX12_13 c1 ?_
    refine s_iload_n (q := 56) 37 3 rfl rfl ?_
    refine s_iconst (q := 57) 38 rfl ?_
    obtain ⟨c17, h⟩ := h
    refine n_iadd (q := 58) 39 rfl c17 ?_
    obtain ⟨c18, h⟩ := h
    refine n_iald (q := 59) 40 rfl c3 c18 ?_
    refine PW.pick [] rfl ?_
    exact n_callV (N := mX12_fieldOf) (as := [(0, x1), (0, E (F x0 3) (x3 + 3)), (0, E (F x0 3) (x3 + 4))]) (st := [(0, s0)]) (q := 62) (d' := 1) 41 rfl uX12_fieldOf kX12_464 rfl c1 h
theorem vX12_holds_62 {l : Launch} {G : pG} {bg : Nat × Nat} {n : Nat} {K : Int → Nat × Nat} {F E : Int → Int → Int} {Q : Option pV → pM → Prop} (s0 s1 : Int) (h : ((¬ s1 = s0 → Q (some (0, 0)) (n, K, F, E)) ∧ (s1 = s0 → Q (some (0, 1)) (n, K, F, E)))) : PW l G 2 mX12_holds bg 62 [] [(0, s0), (0, s1)] (n, K, F, E) Q := by
  refine s_icmp_ne (q := 65) (tgt := 69) 42 rfl rfl (fun hb => ?_) (fun hb => ?_)
  · skip
    have b1 := hb
    replace h := h.1 hb
    refine s_iconst (q := 70) 45 rfl ?_
    exact s_zret 46 rfl rfl (by decide) h
  · have hb := Classical.not_not.mp hb
    have b1 := hb
    replace h := h.2 hb
    refine s_iconst (q := 66) 43 rfl ?_
    refine s_goto (tgt := 70) 44 rfl rfl ?_
    exact s_zret 46 rfl rfl (by decide) h
