section NK
variable {l : Launch} {G : pG} {d : Nat} {M : pMeth} {bg : Nat × Nat} {pc : Nat} {lv : List (Nat × pV)} {st : List pV} {Q : Option pV → pM → Prop} {n : Nat} {K : Int → Nat × Nat} {F E : Int → Int → Int}
theorem PW.nameK (h : ∀ K', K' = K → PW l G d M bg pc lv st (n, K', F, E) Q) : PW l G d M bg pc lv st (n, K, F, E) Q := h K rfl
end NK
theorem vX11_few_0 {l : Launch} {G : pG} {n : Nat} {K : Int → Nat × Nat} {F E : Int → Int → Int} {Q : Option pV → pM → Prop} (x0 x1 x2 : Int) (h : ((x1 < 1 → Q (some (1, (-1))) (n, K, F, E)) ∧ (¬ (x1 < 1) → ((20 < x1 → Q (some (1, (-1))) (n, K, F, E)) ∧ (¬ (20 < x1) → ((x2 < 0 → Q (some (1, (-1))) (n, K, F, E)) ∧ (¬ (x2 < 0) → ((x2 ≤ 99 → (K x0).1 = 11 ∧ (K (F x0 0)).1 = 1 ∧ (K (F (F x0 0) 1)).1 = 20 ∧ ((0 : Int) ≤ 1 ∧ 1 < ((K (F (F x0 0) 1)).2 : Int)) ∧ ((0 : Int) ≤ x1 ∧ x1 ≤ 20) ∧ (∀ a1, a1 = ((n : Nat) : Int) → (∀ K2, K2 = pKu K a1 (21, (x1).toNat) → (∀ E3, E3 = pRow E a1 (fun _ => 0) → (0 : Int) ≤ a1 ∧ (K2 a1).1 = 21 ∧ ((0 : Int) ≤ 0 ∧ 0 < ((K2 a1).2 : Int)) ∧ (∀ E4, E4 = pUp E3 a1 0 1000000000000 → PW l G 0 mX11_few (0, 0) 50 [(1, (0, x1)), (2, (0, x2)), (3, (0, E (F (F x0 0) 1) 1)), (4, (2, a1)), (5, (0, 0))] [] (n + 1, K2, F, E4) Q))))) ∧ (¬ (x2 ≤ 99) → Q (some (1, (-1))) (n, K, F, E)))))))))) : PW l G 0 mX11_few (1, 20) 0 [(0, (2, x0)), (1, (0, x1)), (2, (0, x2))] [] (n, K, F, E) Q := by
  refine s_iload_n (q := 1) 0 1 rfl rfl ?_
  refine s_iconst (q := 2) 1 rfl ?_
  refine s_icmp_lt (q := 5) (tgt := 21) 2 rfl rfl (fun hb => ?_) (fun hb => ?_)
  · skip
    have b1 := hb
    replace h := h.1 hb
    refine s_ldc2 (q := 24) (x := (-1)) 11 rfl kX11_307 ?_
    exact s_lret 12 rfl rfl h
  · skip
    have b1 := hb
    replace h := h.2 hb
    refine s_iload_n (q := 6) 3 1 rfl rfl ?_
    refine s_bipush (q := 8) 4 rfl ?_
    refine s_icmp_gt (q := 11) (tgt := 21) 5 rfl rfl (fun hb => ?_) (fun hb => ?_)
    · skip
      have b2 := hb
      replace h := h.1 hb
      refine s_ldc2 (q := 24) (x := (-1)) 11 rfl kX11_307 ?_
      exact s_lret 12 rfl rfl h
    · skip
      have b2 := hb
      replace h := h.2 hb
      refine s_iload_n (q := 12) 6 2 rfl rfl ?_
      refine s_if_lt (q := 15) (tgt := 21) 7 rfl rfl (fun hb => ?_) (fun hb => ?_)
      · skip
        have b3 := hb
        replace h := h.1 hb
        refine s_ldc2 (q := 24) (x := (-1)) 11 rfl kX11_307 ?_
        exact s_lret 12 rfl rfl h
      · skip
        have b3 := hb
        replace h := h.2 hb
        refine s_iload_n (q := 16) 8 2 rfl rfl ?_
        refine s_bipush (q := 18) 9 rfl ?_
        refine s_icmp_le (q := 21) (tgt := 25) 10 rfl rfl (fun hb => ?_) (fun hb => ?_)
        · skip
          have b4 := hb
          replace h := h.1 hb
          refine s_aload_n (q := 26) 13 0 rfl rfl ?_
          obtain ⟨c5, h⟩ := h
          refine n_getf (q := 29) (jj := 0) 14 11 0 rfl kX11_10 c5 ?_
          obtain ⟨c6, h⟩ := h
          refine n_getf (q := 32) (jj := 1) 15 1 1 rfl kX11_154 c6 ?_
          refine s_iconst (q := 33) 16 rfl ?_
          obtain ⟨c7, h⟩ := h
          obtain ⟨c8, h⟩ := h
          refine n_iald (q := 34) 17 rfl c7 c8 ?_
          refine s_istore_n (q := 35) (lv' := [(3, (0, E (F (F x0 0) 1) 1)), (0, (2, x0)), (1, (0, x1)), (2, (0, x2))]) 18 rfl rfl ?_
          refine s_iload_n (q := 36) 19 2 rfl rfl ?_
          obtain ⟨c9, h⟩ := h
          refine s_newa (q := 38) 20 1 0 0 rfl (by decide) kar_long ⟨c9.1, by omega⟩ ⟨by decide, by have := c9; dsimp only; omega⟩ ?_
          refine PW.name (fun a1 ea1 => ?_)
          rw [← ea1]
          replace h := h a1 ea1
          refine PW.nameK (fun K2 eK2 => ?_)
          replace h := h K2 eK2
          refine PW.nameE (fun E3 eE3 => ?_)
          replace h := h E3 eE3
          refine s_astore (q := 40) (lv' := [(4, (2, a1)), (3, (0, E (F (F x0 0) 1) 1)), (0, (2, x0)), (1, (0, x1)), (2, (0, x2))]) 21 rfl rfl ?_
          refine s_aload (q := 42) 22 0 rfl rfl ?_
          refine s_iconst (q := 43) 23 rfl ?_
          refine s_ldc2 (q := 46) (x := 1000000000000) 24 rfl kX11_309 ?_
          obtain ⟨c10, h⟩ := h
          obtain ⟨c11, h⟩ := h
          obtain ⟨c12, h⟩ := h
          refine n_last (q := 47) 25 rfl c10 c11 c12 ?_
          refine PW.nameE (fun E4 eE4 => ?_)
          replace h := h E4 eE4
          refine s_iconst (q := 48) 26 rfl ?_
          refine s_istore (q := 50) (lv' := [(5, (0, 0)), (4, (2, a1)), (3, (0, E (F (F x0 0) 1) 1)), (0, (2, x0)), (1, (0, x1)), (2, (0, x2))]) 27 rfl rfl ?_
          refine PW.pick [4, 5, 2, 1, 0] rfl ?_
          exact h
        · skip
          have b4 := hb
          replace h := h.2 hb
          refine s_ldc2 (q := 24) (x := (-1)) 11 rfl kX11_307 ?_
          exact s_lret 12 rfl rfl h
theorem vX11_few_50 {l : Launch} {G : pG} {n : Nat} {K : Int → Nat × Nat} {F E : Int → Int → Int} {Q : Option pV → pM → Prop} (x1 x2 x3 x4 x5 : Int) (h : ((x2 ≤ x5 → PW l G 0 mX11_few (0, 0) 133 [(1, (0, x1)), (4, (2, x4)), (5, (1, 0)), (7, (0, 0))] [] (n, K, F, E) Q) ∧ (¬ (x2 ≤ x5) → (-2147483648 ≤ x1 - 1 ∧ x1 - 1 < 2147483648) ∧ PW l G 0 mX11_few (0, 0) 61 [(1, (0, x1)), (2, (0, x2)), (3, (0, x3)), (4, (2, x4)), (5, (0, x5)), (6, (0, x1 - 1))] [] (n, K, F, E) Q))) : PW l G 0 mX11_few (0, 0) 50 [(1, (0, x1)), (2, (0, x2)), (3, (0, x3)), (4, (2, x4)), (5, (0, x5))] [] (n, K, F, E) Q := by
  refine s_iload (q := 52) 28 4 rfl rfl ?_
  refine s_iload_n (q := 53) 29 1 rfl rfl ?_
  refine s_icmp_ge (q := 56) (tgt := 127) 30 rfl rfl (fun hb => ?_) (fun hb => ?_)
  · skip
    have b1 := hb
    replace h := h.1 hb
    refine s_lconst (q := 128) (x := 0) 71 rfl ?_
    refine s_lstore (q := 130) (lv' := [(5, (1, 0)), (1, (0, x1)), (2, (0, x2)), (3, (0, x3)), (4, (2, x4))]) 72 rfl rfl ?_
    refine s_iconst (q := 131) 73 rfl ?_
    refine s_istore (q := 133) (lv' := [(7, (0, 0)), (5, (1, 0)), (1, (0, x1)), (2, (0, x2)), (3, (0, x3)), (4, (2, x4))]) 74 rfl rfl ?_
    refine PW.pick [2, 5, 1, 0] rfl ?_
    exact h
  · skip
    have b1 := hb
    replace h := h.2 hb
    refine s_iload_n (q := 57) 31 0 rfl rfl ?_
    refine s_iconst (q := 58) 32 rfl ?_
    obtain ⟨c2, h⟩ := h
    refine n_isub (q := 59) 33 rfl c2 ?_
    refine s_istore (q := 61) (lv' := [(6, (0, x1 - 1)), (1, (0, x1)), (2, (0, x2)), (3, (0, x3)), (4, (2, x4)), (5, (0, x5))]) 34 rfl rfl ?_
    refine PW.pick [1, 2, 3, 4, 5, 0] rfl ?_
    exact h
theorem vX11_few_61 {l : Launch} {G : pG} {n : Nat} {K : Int → Nat × Nat} {F E : Int → Int → Int} {Q : Option pV → pM → Prop} (x1 x2 x3 x4 x5 x6 : Int) (h : ((x6 < 0 → (-2147483648 ≤ x5 + 1 ∧ x5 + 1 < 2147483648) ∧ PW l G 0 mX11_few (0, 0) 50 [(1, (0, x1)), (2, (0, x2)), (3, (0, x3)), (4, (2, x4)), (5, (0, x5 + 1))] [] (n, K, F, E) Q) ∧ (¬ (x6 < 0) → (0 : Int) ≤ x4 ∧ (K x4).1 = 21 ∧ ((0 : Int) ≤ x6 ∧ x6 < ((K x4).2 : Int)) ∧ (-2147483648 ≤ 10 - x3 ∧ 10 - x3 < 2147483648) ∧ (∀ a1, a1 = w64 ((w64 ((E x4 x6) * (10 - x3))).tdiv 10) → ((¬ x6 = 0 → (-2147483648 ≤ x6 - 1 ∧ x6 - 1 < 2147483648) ∧ ((0 : Int) ≤ x6 - 1 ∧ x6 - 1 < ((K x4).2 : Int)) ∧ (∀ a2, a2 = w64 ((w64 ((E x4 (x6 - 1)) * x3)).tdiv 10) → (-9223372036854775808 ≤ a1 + a2 ∧ a1 + a2 < 9223372036854775808) ∧ (∀ E3, E3 = pUp E x4 x6 (a1 + a2) → (-2147483648 ≤ x6 + (-1) ∧ x6 + (-1) < 2147483648) ∧ PW l G 0 mX11_few (0, 0) 61 [(1, (0, x1)), (2, (0, x2)), (3, (0, x3)), (4, (2, x4)), (5, (0, x5)), (6, (0, x6 + (-1)))] [] (n, K, F, E3) Q))) ∧ (x6 = 0 → (∀ E4, E4 = pUp E x4 x6 a1 → (-2147483648 ≤ x6 + (-1) ∧ x6 + (-1) < 2147483648) ∧ PW l G 0 mX11_few (0, 0) 61 [(1, (0, x1)), (2, (0, x2)), (3, (0, x3)), (4, (2, x4)), (5, (0, x5)), (6, (0, x6 + (-1)))] [] (n, K, F, E4) Q))))))) : PW l G 0 mX11_few (0, 0) 61 [(1, (0, x1)), (2, (0, x2)), (3, (0, x3)), (4, (2, x4)), (5, (0, x5)), (6, (0, x6))] [] (n, K, F, E) Q := by
  refine s_iload (q := 63) 35 5 rfl rfl ?_
  refine s_if_lt (q := 66) (tgt := 121) 36 rfl rfl (fun hb => ?_) (fun hb => ?_)
  · skip
    have b1 := hb
    replace h := h.1 hb
    obtain ⟨c2, h⟩ := h
    refine n_iinc (q := 124) (lv' := [(5, (0, x5 + 1)), (1, (0, x1)), (2, (0, x2)), (3, (0, x3)), (4, (2, x4)), (6, (0, x6))]) 69 4 rfl rfl c2 rfl ?_
    refine s_goto (tgt := 50) 70 rfl rfl ?_
    refine PW.pick [1, 2, 3, 4, 0] rfl ?_
    exact h
  · skip
    have b1 := hb
    replace h := h.2 hb
    refine s_aload (q := 68) 37 3 rfl rfl ?_
    refine s_iload (q := 70) 38 5 rfl rfl ?_
    obtain ⟨c3, h⟩ := h
    obtain ⟨c4, h⟩ := h
    obtain ⟨c5, h⟩ := h
    refine n_lald (q := 71) 39 rfl c3 c4 c5 ?_
    refine s_bipush (q := 73) 40 rfl ?_
    refine s_iload_n (q := 74) 41 2 rfl rfl ?_
    obtain ⟨c6, h⟩ := h
    refine n_isub (q := 75) 42 rfl c6 ?_
    refine s_i2l (q := 76) 43 rfl ?_
    refine s_lmul (q := 77) 44 rfl ?_
    refine s_ldc2 (q := 80) (x := 10) 45 rfl kX11_311 ?_
    refine s_ldiv (q := 81) 46 rfl (by decide) ?_
    refine PW.name (fun a1 ea1 => ?_)
    replace h := h a1 ea1
    refine s_lstore (q := 83) (lv' := [(7, (1, a1)), (1, (0, x1)), (2, (0, x2)), (3, (0, x3)), (4, (2, x4)), (5, (0, x5)), (6, (0, x6))]) 47 rfl rfl ?_
    refine s_aload (q := 85) 48 4 rfl rfl ?_
    refine s_iload (q := 87) 49 6 rfl rfl ?_
    refine s_iload (q := 89) 50 6 rfl rfl ?_
    refine s_if_ne (q := 92) (tgt := 97) 51 rfl rfl (fun hb => ?_) (fun hb => ?_)
    · skip
      have b7 := hb
      replace h := h.1 hb
      refine s_lload (q := 99) 54 0 rfl rfl ?_
      refine s_aload (q := 101) 55 4 rfl rfl ?_
      refine s_iload (q := 103) 56 6 rfl rfl ?_
      refine s_iconst (q := 104) 57 rfl ?_
      obtain ⟨c8, h⟩ := h
      refine n_isub (q := 105) 58 rfl c8 ?_
      obtain ⟨c9, h⟩ := h
      refine n_lald (q := 106) 59 rfl c3 c4 c9 ?_
      refine s_iload_n (q := 107) 60 3 rfl rfl ?_
      refine s_i2l (q := 108) 61 rfl ?_
      refine s_lmul (q := 109) 62 rfl ?_
      refine s_ldc2 (q := 112) (x := 10) 63 rfl kX11_311 ?_
      refine s_ldiv (q := 113) 64 rfl (by decide) ?_
      refine PW.name (fun a2 ea2 => ?_)
      replace h := h a2 ea2
      obtain ⟨c10, h⟩ := h
      refine n_ladd (q := 114) 65 rfl c10 ?_
      refine n_last (q := 115) 66 rfl c3 c4 c5 ?_
      refine PW.nameE (fun E3 eE3 => ?_)
      replace h := h E3 eE3
      obtain ⟨c11, h⟩ := h
      refine n_iinc (q := 118) (lv' := [(6, (0, x6 + (-1))), (7, (1, a1)), (1, (0, x1)), (2, (0, x2)), (3, (0, x3)), (4, (2, x4)), (5, (0, x5))]) 67 6 rfl rfl c11 rfl ?_
      refine s_goto (tgt := 61) 68 rfl rfl ?_
      refine PW.pick [2, 3, 4, 5, 6, 0] rfl ?_
      exact h
    · have hb := Classical.not_not.mp hb
      have b7 := hb
      replace h := h.2 hb
      refine s_lload (q := 94) 52 0 rfl rfl ?_
      refine s_goto (tgt := 114) 53 rfl rfl ?_
      refine n_last (q := 115) 66 rfl c3 c4 c5 ?_
      refine PW.nameE (fun E4 eE4 => ?_)
      replace h := h E4 eE4
      obtain ⟨c12, h⟩ := h
      refine n_iinc (q := 118) (lv' := [(6, (0, x6 + (-1))), (7, (1, a1)), (1, (0, x1)), (2, (0, x2)), (3, (0, x3)), (4, (2, x4)), (5, (0, x5))]) 67 6 rfl rfl c12 rfl ?_
      refine s_goto (tgt := 61) 68 rfl rfl ?_
      refine PW.pick [2, 3, 4, 5, 6, 0] rfl ?_
      exact h
theorem vX11_few_133 {l : Launch} {G : pG} {n : Nat} {K : Int → Nat × Nat} {F E : Int → Int → Int} {Q : Option pV → pM → Prop} (x1 x4 x5 x7 : Int) (h : ((x1 ≤ x7 → Q (some (1, x5)) (n, K, F, E)) ∧ (¬ (x1 ≤ x7) → (0 : Int) ≤ x4 ∧ (K x4).1 = 21 ∧ ((0 : Int) ≤ x7 ∧ x7 < ((K x4).2 : Int)) ∧ (-9223372036854775808 ≤ x5 + (E x4 x7) ∧ x5 + (E x4 x7) < 9223372036854775808) ∧ (-2147483648 ≤ x7 + 1 ∧ x7 + 1 < 2147483648) ∧ PW l G 0 mX11_few (0, 0) 133 [(1, (0, x1)), (4, (2, x4)), (5, (1, x5 + (E x4 x7))), (7, (0, x7 + 1))] [] (n, K, F, E) Q))) : PW l G 0 mX11_few (0, 0) 133 [(1, (0, x1)), (4, (2, x4)), (5, (1, x5)), (7, (0, x7))] [] (n, K, F, E) Q := by
  refine s_iload (q := 135) 75 3 rfl rfl ?_
  refine s_iload_n (q := 136) 76 0 rfl rfl ?_
  refine s_icmp_ge (q := 139) (tgt := 155) 77 rfl rfl (fun hb => ?_) (fun hb => ?_)
  · skip
    have b1 := hb
    replace h := h.1 hb
    refine s_lload (q := 157) 86 2 rfl rfl ?_
    exact s_lret 87 rfl rfl h
  · skip
    have b1 := hb
    replace h := h.2 hb
    refine s_lload (q := 141) 78 2 rfl rfl ?_
    refine s_aload (q := 143) 79 1 rfl rfl ?_
    refine s_iload (q := 145) 80 3 rfl rfl ?_
    obtain ⟨c2, h⟩ := h
    obtain ⟨c3, h⟩ := h
    obtain ⟨c4, h⟩ := h
    refine n_lald (q := 146) 81 rfl c2 c3 c4 ?_
    obtain ⟨c5, h⟩ := h
    refine n_ladd (q := 147) 82 rfl c5 ?_
    refine s_lstore (q := 149) (lv' := [(5, (1, x5 + (E x4 x7))), (1, (0, x1)), (4, (2, x4)), (7, (0, x7))]) 83 rfl rfl ?_
    obtain ⟨c6, h⟩ := h
    refine n_iinc (q := 152) (lv' := [(7, (0, x7 + 1)), (5, (1, x5 + (E x4 x7))), (1, (0, x1)), (4, (2, x4))]) 84 3 rfl rfl c6 rfl ?_
    refine s_goto (tgt := 133) 85 rfl rfl ?_
    refine PW.pick [2, 3, 1, 0] rfl ?_
    exact h
theorem vX11_law_0 {l : Launch} {G : pG} {n : Nat} {K : Int → Nat × Nat} {F E : Int → Int → Int} {Q : Option pV → pM → Prop} (x0 : Int) (h : (K x0).1 = 11 ∧ (K (F x0 0)).1 = 1 ∧ ((F (F x0 0) 6 < 6 → (K (F x0 8)).1 = 5 ∧ PC l G 82 mX5_read (0, 0) [(2, F x0 8), (0, 1)] (n, K, F, E) (fun r μ => PW l G 83 mX11_law (3, 876) 36 [(0, (2, x0))] (r.toList ++ [(2, x0)]) μ Q)) ∧ (¬ (F (F x0 0) 6 < 6) → (K (F x0 9)).1 = 8 ∧ (∀ F1, F1 = pUp F (F x0 9) 1 0 → (∀ F2, F2 = pUp F1 x0 16 (-5) → (K (F x0 13)).1 = 20 ∧ ((0 : Int) ≤ 3 ∧ 3 < ((K (F x0 13)).2 : Int)) ∧ (0 : Int) ≤ F x0 13 ∧ (∀ E3, E3 = pUp E (F x0 13) 3 (w32 ((E (F x0 13) 3) + 1)) → Q (some (0, (-5))) (n, K, F2, E3))))))) : PW l G 83 mX11_law (3, 876) 0 [(0, (2, x0))] [] (n, K, F, E) Q := by
  refine s_aload_n (q := 1) 0 0 rfl rfl ?_
  obtain ⟨c1, h⟩ := h
  refine n_getf (q := 4) (jj := 0) 1 11 0 rfl kX11_10 c1 ?_
  obtain ⟨c2, h⟩ := h
  refine n_getf (q := 7) (jj := 6) 2 1 6 rfl kX11_179 c2 ?_
  refine s_bipush (q := 9) 3 rfl ?_
  refine s_icmp_lt (q := 12) (tgt := 27) 4 rfl rfl (fun hb => ?_) (fun hb => ?_)
  · skip
    have b3 := hb
    replace h := h.1 hb
    refine s_aload_n (q := 28) 13 0 rfl rfl ?_
    refine s_aload_n (q := 29) 14 0 rfl rfl ?_
    refine n_getf (q := 32) (jj := 8) 15 11 8 rfl kX11_51 c1 ?_
    refine s_iconst (q := 33) 16 rfl ?_
    obtain ⟨c4, h⟩ := h
    refine PW.pick [0] rfl ?_
    exact n_callV (N := mX5_read) (as := [(0, 1)]) (st := [(2, x0)]) (q := 36) (d' := 82) 17 rfl uX5_read kX11_182 rfl c4 h
  · skip
    have b3 := hb
    replace h := h.2 hb
    refine s_aload_n (q := 13) 5 0 rfl rfl ?_
    refine n_getf (q := 16) (jj := 9) 6 11 9 rfl kX11_65 c1 ?_
    refine s_iconst (q := 17) 7 rfl ?_
    obtain ⟨c5, h⟩ := h
    refine n_putf (q := 20) (jj := 1) 8 8 1 rfl kX11_160 c5 (Or.inl rfl) ?_
    refine PW.nameF (fun F1 eF1 => ?_)
    replace h := h F1 eF1
    refine s_aload_n (q := 21) 9 0 rfl rfl ?_
    refine s_bipush (q := 23) 10 rfl ?_
    refine n_callV (N := mX11_refuse) (as := [(0, (-5))]) (st := []) (q := 26) (d' := 0) 11 rfl uX11_refuse kX11_114 rfl c1 ?_
    show PW l G 0 mX11_refuse (0, 0) 0 [(0, (2, x0)), (1, (0, (-5)))] [] (n, K, F1, E) _
    refine s_aload_n (q := 1) 0 0 rfl rfl ?_
    refine s_iload_n (q := 2) 1 1 rfl rfl ?_
    refine n_putf (q := 5) (jj := 16) 2 11 16 rfl kX11_97 c1 (Or.inl rfl) ?_
    refine PW.nameF (fun F2 eF2 => ?_)
    replace h := h F2 eF2
    refine s_iload_n (q := 6) 3 1 rfl rfl ?_
    refine s_bipush (q := 8) 4 rfl ?_
    refine s_icmp_lt (q := 11) (tgt := 18) 5 rfl rfl (fun _ => ?_) (fun hb => absurd (by decide) hb)
    refine s_iload_n (q := 19) 11 1 rfl rfl ?_
    refine n_ineg (q := 20) 12 rfl (by decide) ?_
    refine PW.top (b := 5) (by decide) ?_
    refine s_iconst (q := 21) 13 rfl ?_
    refine n_isub (q := 22) 14 rfl (by decide) ?_
    refine PW.top (b := 3) (by decide) ?_
    refine s_istore_n (q := 23) (lv' := [(2, (0, 3)), (0, (2, x0)), (1, (0, (-5)))]) 15 rfl rfl ?_
    refine s_iload_n (q := 24) 16 0 rfl rfl ?_
    refine s_if_lt (q := 27) (tgt := 42) 17 rfl rfl (fun hb => absurd hb (by decide)) (fun _ => ?_)
    refine s_iload_n (q := 28) 18 0 rfl rfl ?_
    refine s_iconst (q := 29) 19 rfl ?_
    refine s_icmp_ge (q := 32) (tgt := 42) 20 rfl rfl (fun hb => absurd hb (by decide)) (fun _ => ?_)
    refine s_aload_n (q := 33) 21 1 rfl rfl ?_
    refine n_getf (q := 36) (jj := 13) 22 11 13 rfl kX11_87 c1 ?_
    refine PW.top (b := F x0 13) (by refine (congrFun (congrFun eF2 _) _).trans ((pUp_k (by decide)).trans ?_); exact (congrFun (congrFun eF1 _) _).trans (pUp_K c5 c1 (by decide))) ?_
    refine s_iload_n (q := 37) 23 0 rfl rfl ?_
    refine s_dup2 (q := 38) 24 rfl ?_
    obtain ⟨c6, h⟩ := h
    obtain ⟨c7, h⟩ := h
    refine n_iald (q := 39) 25 rfl c6 c7 ?_
    refine s_iconst (q := 40) 26 rfl ?_
    refine s_iadd (q := 41) 27 rfl ?_
    obtain ⟨c8, h⟩ := h
    refine n_iast (q := 42) 28 rfl c8 c6 c7 ?_
    refine PW.nameE (fun E3 eE3 => ?_)
    replace h := h E3 eE3
    refine s_iload_n (q := 43) 29 2 rfl rfl ?_
    refine s_iret 30 rfl rfl ?_
    show PW l G 83 mX11_law (3, 876) 26 [(0, (2, x0))] [(0, (-5))] (n, K, F2, E3) Q
    exact s_iret 12 rfl rfl h
theorem vX11_law_36 {l : Launch} {G : pG} {n : Nat} {K : Int → Nat × Nat} {F E : Int → Int → Int} {Q : Option pV → pM → Prop} (x0 s0 s1 : Int) (h : (K s1).1 = 11 ∧ (∀ F1, F1 = pUp F s1 17 s0 → (K x0).1 = 11 ∧ (K (F1 x0 9)).1 = 8 ∧ (∀ F2, F2 = pUp F1 (F1 x0 9) 1 0 → ((F1 x0 17 = (-1) → (K (F1 x0 0)).1 = 1 ∧ (∀ a3, a3 = ((n : Nat) : Int) → (∀ K4, K4 = pKu K a3 (9, 0) → (∀ F5, F5 = pRow F2 a3 (pDef 9) → (K4 x0).1 = 11 ∧ (K4 (F5 x0 8)).1 = 5 ∧ (0 : Int) ≤ a3 ∧ (K4 (F5 (F5 x0 8) 1)).1 = 9 ∧ (-2147483648 ≤ (F5 (F5 (F5 x0 8) 1) 2) * 6 ∧ (F5 (F5 (F5 x0 8) 1) 2) * 6 < 2147483648) ∧ ((0 : Int) ≤ (F5 (F5 (F5 x0 8) 1) 2) * 6 ∧ (F5 (F5 (F5 x0 8) 1) 2) * 6 ≤ 72) ∧ (∀ a6, a6 = ((n + 1 : Nat) : Int) → (∀ K7, K7 = pKu K4 a6 (20, ((F5 (F5 (F5 x0 8) 1) 2) * 6).toNat) → (∀ E8, E8 = pRow E a6 (fun _ => 0) → (K7 a3).1 = 9 ∧ (∀ F9, F9 = pUp F5 a3 0 a6 → (K7 (F5 (F5 x0 8) 1)).1 = 9 ∧ ((0 : Int) ≤ F9 (F5 (F5 x0 8) 1) 3 ∧ F9 (F5 (F5 x0 8) 1) 3 ≤ 800) ∧ (∀ a10, a10 = ((n + 2 : Nat) : Int) → (∀ K11, K11 = pKu K7 a10 (20, (F9 (F5 (F5 x0 8) 1) 3).toNat) → (∀ E12, E12 = pRow E8 a10 (fun _ => 0) → (K11 a3).1 = 9 ∧ (∀ F13, F13 = pUp F9 a3 1 a10 → (K11 (F5 (F5 x0 8) 1)).1 = 9 ∧ (∀ F14, F14 = pUp F13 a3 2 (F13 (F5 (F5 x0 8) 1) 2) → (∀ F15, F15 = pUp F14 a3 3 (F14 (F5 (F5 x0 8) 1) 3) → (K11 a6).1 = 20 ∧ (0 : Int) ≤ F15 (F5 (F5 x0 8) 1) 0 ∧ (K11 (F15 (F5 (F5 x0 8) 1) 0)).1 = 20 ∧ (0 : Int) ≤ a6 ∧ ((0 : Int) ≤ 0 ∧ (0 : Int) ≤ 0 ∧ (0 : Int) ≤ ((K11 a6).2 : Int) ∧ 0 + ((K11 a6).2 : Int) ≤ ((K11 (F15 (F5 (F5 x0 8) 1) 0)).2 : Int) ∧ 0 + ((K11 a6).2 : Int) ≤ ((K11 a6).2 : Int)) ∧ (∀ E16, E16 = pRow E12 a6 (pCpy E12 (F15 (F5 (F5 x0 8) 1) 0) 0 a6 0 ((K11 a6).2 : Int)) → (K11 a10).1 = 20 ∧ (0 : Int) ≤ F15 (F5 (F5 x0 8) 1) 1 ∧ (K11 (F15 (F5 (F5 x0 8) 1) 1)).1 = 20 ∧ (0 : Int) ≤ a10 ∧ ((0 : Int) ≤ 0 ∧ (0 : Int) ≤ 0 ∧ (0 : Int) ≤ ((K11 a10).2 : Int) ∧ 0 + ((K11 a10).2 : Int) ≤ ((K11 (F15 (F5 (F5 x0 8) 1) 1)).2 : Int) ∧ 0 + ((K11 a10).2 : Int) ≤ ((K11 a10).2 : Int)) ∧ (∀ E17, E17 = pRow E16 a10 (pCpy E16 (F15 (F5 (F5 x0 8) 1) 1) 0 a10 0 ((K11 a10).2 : Int)) → (0 : Int) ≤ F (F1 x0 0) 5 ∧ (K11 (F (F1 x0 0) 5)).1 = 25 ∧ ((0 : Int) ≤ F (F1 x0 0) 6 ∧ F (F1 x0 0) 6 < ((K11 (F (F1 x0 0) 5)).2 : Int)) ∧ (a3 = -1 ∨ (K11 a3).1 = 9) ∧ (∀ E18, E18 = pUp E17 (F (F1 x0 0) 5) (F (F1 x0 0) 6) a3 → (K11 x0).1 = 11 ∧ (K11 (F5 x0 0)).1 = 1 ∧ (-2147483648 ≤ (F5 (F5 x0 0) 6) + 1 ∧ (F5 (F5 x0 0) 6) + 1 < 2147483648) ∧ (∀ F19, F19 = pUp F15 (F5 x0 0) 6 ((F5 (F5 x0 0) 6) + 1) → (-2147483648 ≤ ((F5 (F5 x0 0) 6) + 1) - 1 ∧ ((F5 (F5 x0 0) 6) + 1) - 1 < 2147483648) ∧ (∀ F20, F20 = pUp F19 x0 16 0 → Q (some (0, ((F5 (F5 x0 0) 6) + 1) - 1)) (n + 3, K11, F20, E18)))))))))))))))))))) ∧ (¬ (F1 x0 17 = (-1)) → (∀ F21, F21 = pUp F2 x0 16 (-6) → (K (F1 x0 13)).1 = 20 ∧ ((0 : Int) ≤ 4 ∧ 4 < ((K (F1 x0 13)).2 : Int)) ∧ (0 : Int) ≤ F1 x0 13 ∧ (∀ E22, E22 = pUp E (F1 x0 13) 4 (w32 ((E (F1 x0 13) 4) + 1)) → Q (some (0, (-6))) (n, K, F21, E22)))))))) : PW l G 83 mX11_law (3, 876) 36 [(0, (2, x0))] [(0, s0), (2, s1)] (n, K, F, E) Q := by
  obtain ⟨c1, h⟩ := h
  refine n_putf (q := 39) (jj := 17) 18 11 17 rfl kX11_101 c1 (Or.inl rfl) ?_
  refine PW.nameF (fun F1 eF1 => ?_)
  replace h := h F1 eF1
  refine s_aload_n (q := 40) 19 0 rfl rfl ?_
  obtain ⟨c2, h⟩ := h
  refine n_getf (q := 43) (jj := 9) 20 11 9 rfl kX11_65 c2 ?_
  refine s_iconst (q := 44) 21 rfl ?_
  obtain ⟨c3, h⟩ := h
  refine n_putf (q := 47) (jj := 1) 22 8 1 rfl kX11_160 c3 (Or.inl rfl) ?_
  refine PW.nameF (fun F2 eF2 => ?_)
  replace h := h F2 eF2
  refine s_aload_n (q := 48) 23 0 rfl rfl ?_
  refine n_getf (q := 51) (jj := 17) 24 11 17 rfl kX11_101 c2 ?_
  refine PW.top (b := F1 x0 17) (by exact (congrFun (congrFun eF2 _) _).trans (pUp_K c3 c2 (by decide))) ?_
  refine s_iconst (q := 52) 25 rfl ?_
  refine s_icmp_eq (q := 55) (tgt := 62) 26 rfl rfl (fun hb => ?_) (fun hb => ?_)
  · skip
    have b4 := hb
    replace h := h.1 hb
    refine s_aload_n (q := 63) 31 0 rfl rfl ?_
    refine n_getf (q := 66) (jj := 0) 32 11 0 rfl kX11_10 c2 ?_
    refine PW.top (b := F1 x0 0) (by exact (congrFun (congrFun eF2 _) _).trans (pUp_K c3 c2 (by decide))) ?_
    obtain ⟨c5, h⟩ := h
    refine n_getf (q := 69) (jj := 5) 33 1 5 rfl kX11_186 c5 ?_
    refine PW.top (b := F (F1 x0 0) 5) (by refine (congrFun (congrFun eF2 _) _).trans ((pUp_K c3 c5 (by decide)).trans ?_); exact (congrFun (congrFun eF1 _) _).trans (pUp_K c1 c5 (by decide))) ?_
    refine s_aload_n (q := 70) 34 0 rfl rfl ?_
    refine n_getf (q := 73) (jj := 0) 35 11 0 rfl kX11_10 c2 ?_
    refine PW.top (b := F1 x0 0) (by exact (congrFun (congrFun eF2 _) _).trans (pUp_K c3 c2 (by decide))) ?_
    refine n_getf (q := 76) (jj := 6) 36 1 6 rfl kX11_179 c5 ?_
    refine PW.top (b := F (F1 x0 0) 6) (by refine (congrFun (congrFun eF2 _) _).trans ((pUp_K c3 c5 (by decide)).trans ?_); exact (congrFun (congrFun eF1 _) _).trans (pUp_K c1 c5 (by decide))) ?_
    refine s_new (q := 79) 37 9 2 872 rfl (by decide) kX11_190 kin_9.1 kin_9.2 (by decide) ?_
    refine PW.name (fun a3 ea3 => ?_)
    rw [← ea3]
    replace h := h a3 ea3
    refine PW.nameK (fun K4 eK4 => ?_)
    replace h := h K4 eK4
    refine PW.nameF (fun F5 eF5 => ?_)
    replace h := h F5 eF5
    refine s_dup (q := 80) 38 rfl ?_
    refine s_aload_n (q := 81) 39 0 rfl rfl ?_
    obtain ⟨c6, h⟩ := h
    refine n_getf (q := 84) (jj := 8) 40 11 8 rfl kX11_51 c6 ?_
    obtain ⟨c7, h⟩ := h
    refine n_getf (q := 87) (jj := 1) 41 5 1 rfl kX11_192 c7 ?_
    obtain ⟨c8, h⟩ := h
    refine s_callI (b' := (2, 872)) (N := mX9_init_) (as := [(2, F5 (F5 x0 8) 1)]) (st := [(2, a3), (0, F (F1 x0 0) 6), (2, F (F1 x0 0) 5)]) (q := 90) (d' := 0) 42 rfl uX9_init_ kX11_196 rfl c8 ?_
    show PW l G 0 mX9_init_ (2, 872) 0 [(0, (2, a3)), (1, (2, F5 (F5 x0 8) 1))] [] (n + 1, K4, F5, E) _
    refine s_aload_n (q := 1) 0 0 rfl rfl ?_
    refine s_obj (q := 4) 1 rfl kX9_3 c8 ?_
    refine s_aload_n (q := 5) 2 0 rfl rfl ?_
    refine s_aload_n (q := 6) 3 1 rfl rfl ?_
    obtain ⟨c9, h⟩ := h
    refine n_getf (q := 9) (jj := 2) 4 9 2 rfl kX9_18 c9 ?_
    refine s_bipush (q := 11) 5 rfl ?_
    obtain ⟨c10, h⟩ := h
    refine n_imul (q := 12) 6 rfl c10 ?_
    obtain ⟨c11, h⟩ := h
    refine s_newa (q := 14) 7 0 1 800 rfl (by decide) kar_int ⟨c11.1, by omega⟩ ⟨by decide, by have := c11; dsimp only; omega⟩ ?_
    refine PW.name (fun a6 ea6 => ?_)
    rw [← ea6]
    replace h := h a6 ea6
    refine PW.nameK (fun K7 eK7 => ?_)
    replace h := h K7 eK7
    refine PW.nameE (fun E8 eE8 => ?_)
    replace h := h E8 eE8
    show PW l G 0 mX9_init_ (1, 800) 14 [(0, (2, a3)), (1, (2, F5 (F5 x0 8) 1))] [(2, a6), (2, a3)] (n + 2, K7, F5, E8) _
    obtain ⟨c12, h⟩ := h
    refine n_putf (q := 17) (jj := 0) 8 9 0 rfl kX9_11 c12 (Or.inr (Or.inr (Or.inr (Or.inr ⟨_, rfl⟩)))) ?_
    refine PW.nameF (fun F9 eF9 => ?_)
    replace h := h F9 eF9
    refine s_aload_n (q := 18) 9 0 rfl rfl ?_
    refine s_aload_n (q := 19) 10 1 rfl rfl ?_
    obtain ⟨c13, h⟩ := h
    refine n_getf (q := 22) (jj := 3) 11 9 3 rfl kX9_22 c13 ?_
    obtain ⟨c14, h⟩ := h
    refine s_newa (q := 24) 12 0 0 0 rfl (by decide) kar_int ⟨c14.1, by omega⟩ ⟨by decide, by have := c14; dsimp only; omega⟩ ?_
    refine PW.name (fun a10 ea10 => ?_)
    rw [← ea10]
    replace h := h a10 ea10
    refine PW.nameK (fun K11 eK11 => ?_)
    replace h := h K11 eK11
    refine PW.nameE (fun E12 eE12 => ?_)
    replace h := h E12 eE12
    show PW l G 0 mX9_init_ (0, 0) 24 [(0, (2, a3)), (1, (2, F5 (F5 x0 8) 1))] [(2, a10), (2, a3)] (n + 3, K11, F9, E12) _
    obtain ⟨c15, h⟩ := h
    refine n_putf (q := 27) (jj := 1) 13 9 1 rfl kX9_15 c15 (Or.inr (Or.inr (Or.inr (Or.inr ⟨_, rfl⟩)))) ?_
    refine PW.nameF (fun F13 eF13 => ?_)
    replace h := h F13 eF13
    refine s_aload_n (q := 28) 14 0 rfl rfl ?_
    refine s_aload_n (q := 29) 15 1 rfl rfl ?_
    obtain ⟨c16, h⟩ := h
    refine n_getf (q := 32) (jj := 2) 16 9 2 rfl kX9_18 c16 ?_
    refine n_putf (q := 35) (jj := 2) 17 9 2 rfl kX9_18 c15 (Or.inl rfl) ?_
    refine PW.nameF (fun F14 eF14 => ?_)
    replace h := h F14 eF14
    refine s_aload_n (q := 36) 18 0 rfl rfl ?_
    refine s_aload_n (q := 37) 19 1 rfl rfl ?_
    refine n_getf (q := 40) (jj := 3) 20 9 3 rfl kX9_22 c16 ?_
    refine n_putf (q := 43) (jj := 3) 21 9 3 rfl kX9_22 c15 (Or.inl rfl) ?_
    refine PW.nameF (fun F15 eF15 => ?_)
    replace h := h F15 eF15
    refine s_aload_n (q := 44) 22 1 rfl rfl ?_
    refine n_getf (q := 47) (jj := 0) 23 9 0 rfl kX9_11 c16 ?_
    refine s_iconst (q := 48) 24 rfl ?_
    refine s_aload_n (q := 49) 25 0 rfl rfl ?_
    refine n_getf (q := 52) (jj := 0) 26 9 0 rfl kX9_11 c15 ?_
    refine PW.top (b := a6) (by refine (congrFun (congrFun eF15 _) _).trans ((pUp_k (by decide)).trans ?_); refine (congrFun (congrFun eF14 _) _).trans ((pUp_k (by decide)).trans ?_); refine (congrFun (congrFun eF13 _) _).trans ((pUp_k (by decide)).trans ?_); exact (congrFun (congrFun eF9 _) _).trans pUp_s) ?_
    refine s_iconst (q := 53) 27 rfl ?_
    refine s_aload_n (q := 54) 28 0 rfl rfl ?_
    refine n_getf (q := 57) (jj := 0) 29 9 0 rfl kX9_11 c15 ?_
    refine PW.top (b := a6) (by refine (congrFun (congrFun eF15 _) _).trans ((pUp_k (by decide)).trans ?_); refine (congrFun (congrFun eF14 _) _).trans ((pUp_k (by decide)).trans ?_); refine (congrFun (congrFun eF13 _) _).trans ((pUp_k (by decide)).trans ?_); exact (congrFun (congrFun eF9 _) _).trans pUp_s) ?_
    obtain ⟨c17, h⟩ := h
    refine n_alen (q := 58) 30 0 rfl c17 ?_
    obtain ⟨c18, h⟩ := h
    obtain ⟨c19, h⟩ := h
    obtain ⟨c20, h⟩ := h
    obtain ⟨c21, h⟩ := h
    refine n_copy (q := 61) 31 rfl kX9_25 c18 c19 c20 c17 c21 ?_
    refine PW.nameE (fun E16 eE16 => ?_)
    replace h := h E16 eE16
    refine s_aload_n (q := 62) 32 1 rfl rfl ?_
    refine n_getf (q := 65) (jj := 1) 33 9 1 rfl kX9_15 c16 ?_
    refine s_iconst (q := 66) 34 rfl ?_
    refine s_aload_n (q := 67) 35 0 rfl rfl ?_
    refine n_getf (q := 70) (jj := 1) 36 9 1 rfl kX9_15 c15 ?_
    refine PW.top (b := a10) (by refine (congrFun (congrFun eF15 _) _).trans ((pUp_k (by decide)).trans ?_); refine (congrFun (congrFun eF14 _) _).trans ((pUp_k (by decide)).trans ?_); exact (congrFun (congrFun eF13 _) _).trans pUp_s) ?_
    refine s_iconst (q := 71) 37 rfl ?_
    refine s_aload_n (q := 72) 38 0 rfl rfl ?_
    refine n_getf (q := 75) (jj := 1) 39 9 1 rfl kX9_15 c15 ?_
    refine PW.top (b := a10) (by refine (congrFun (congrFun eF15 _) _).trans ((pUp_k (by decide)).trans ?_); refine (congrFun (congrFun eF14 _) _).trans ((pUp_k (by decide)).trans ?_); exact (congrFun (congrFun eF13 _) _).trans pUp_s) ?_
    obtain ⟨c22, h⟩ := h
    refine n_alen (q := 76) 40 0 rfl c22 ?_
    obtain ⟨c23, h⟩ := h
    obtain ⟨c24, h⟩ := h
    obtain ⟨c25, h⟩ := h
    obtain ⟨c26, h⟩ := h
    refine n_copy (q := 79) 41 rfl kX9_25 c23 c24 c25 c22 c26 ?_
    refine PW.nameE (fun E17 eE17 => ?_)
    replace h := h E17 eE17
    refine s_vret 42 rfl rfl ?_
    show PW l G 83 mX11_law (0, 0) 90 [(0, (2, x0))] [(2, a3), (0, F (F1 x0 0) 6), (2, F (F1 x0 0) 5)] (n + 3, K11, F15, E17) Q
    obtain ⟨c27, h⟩ := h
    obtain ⟨c28, h⟩ := h
    obtain ⟨c29, h⟩ := h
    obtain ⟨c30, h⟩ := h
    refine n_aast (q := 91) 43 5 rfl c27 c28 c29 c30 ?_
    refine PW.nameE (fun E18 eE18 => ?_)
    replace h := h E18 eE18
    refine s_aload_n (q := 92) 44 0 rfl rfl ?_
    obtain ⟨c31, h⟩ := h
    refine n_getf (q := 95) (jj := 0) 45 11 0 rfl kX11_10 c31 ?_
    refine PW.top (b := F5 x0 0) (by refine (congrFun (congrFun eF15 _) _).trans ((pUp_K c15 c31 (by decide)).trans ?_); refine (congrFun (congrFun eF14 _) _).trans ((pUp_K c15 c31 (by decide)).trans ?_); refine (congrFun (congrFun eF13 _) _).trans ((pUp_K c15 c31 (by decide)).trans ?_); exact (congrFun (congrFun eF9 _) _).trans (pUp_K c15 c31 (by decide))) ?_
    refine s_dup (q := 96) 46 rfl ?_
    obtain ⟨c32, h⟩ := h
    refine n_getf (q := 99) (jj := 6) 47 1 6 rfl kX11_179 c32 ?_
    refine PW.top (b := F5 (F5 x0 0) 6) (by refine (congrFun (congrFun eF15 _) _).trans ((pUp_K c15 c32 (by decide)).trans ?_); refine (congrFun (congrFun eF14 _) _).trans ((pUp_K c15 c32 (by decide)).trans ?_); refine (congrFun (congrFun eF13 _) _).trans ((pUp_K c15 c32 (by decide)).trans ?_); exact (congrFun (congrFun eF9 _) _).trans (pUp_K c15 c32 (by decide))) ?_
    refine s_iconst (q := 100) 48 rfl ?_
    obtain ⟨c33, h⟩ := h
    refine n_iadd (q := 101) 49 rfl c33 ?_
    refine n_putf (q := 104) (jj := 6) 50 1 6 rfl kX11_179 c32 (Or.inl rfl) ?_
    refine PW.nameF (fun F19 eF19 => ?_)
    replace h := h F19 eF19
    refine s_aload_n (q := 105) 51 0 rfl rfl ?_
    refine s_aload_n (q := 106) 52 0 rfl rfl ?_
    refine n_getf (q := 109) (jj := 0) 53 11 0 rfl kX11_10 c31 ?_
    refine PW.top (b := F5 x0 0) (by refine (congrFun (congrFun eF19 _) _).trans ((pUp_K c32 c31 (by decide)).trans ?_); refine (congrFun (congrFun eF15 _) _).trans ((pUp_K c15 c31 (by decide)).trans ?_); refine (congrFun (congrFun eF14 _) _).trans ((pUp_K c15 c31 (by decide)).trans ?_); refine (congrFun (congrFun eF13 _) _).trans ((pUp_K c15 c31 (by decide)).trans ?_); exact (congrFun (congrFun eF9 _) _).trans (pUp_K c15 c31 (by decide))) ?_
    refine n_getf (q := 112) (jj := 6) 54 1 6 rfl kX11_179 c32 ?_
    refine PW.top (b := (F5 (F5 x0 0) 6) + 1) (by exact (congrFun (congrFun eF19 _) _).trans pUp_s) ?_
    refine s_iconst (q := 113) 55 rfl ?_
    obtain ⟨c34, h⟩ := h
    refine n_isub (q := 114) 56 rfl c34 ?_
    refine n_callV (N := mX11_accept) (as := [(0, ((F5 (F5 x0 0) 6) + 1) - 1)]) (st := []) (q := 117) (d' := 0) 57 rfl uX11_accept kX11_157 rfl c31 ?_
    show PW l G 0 mX11_accept (0, 0) 0 [(0, (2, x0)), (1, (0, ((F5 (F5 x0 0) 6) + 1) - 1))] [] (n + 3, K11, F19, E18) _
    refine s_aload_n (q := 1) 0 0 rfl rfl ?_
    refine s_iconst (q := 2) 1 rfl ?_
    refine n_putf (q := 5) (jj := 16) 2 11 16 rfl kX11_97 c31 (Or.inl rfl) ?_
    refine PW.nameF (fun F20 eF20 => ?_)
    replace h := h F20 eF20
    refine s_iload_n (q := 6) 3 1 rfl rfl ?_
    refine s_iret 4 rfl rfl ?_
    show PW l G 83 mX11_law (0, 0) 117 [(0, (2, x0))] [(0, ((F5 (F5 x0 0) 6) + 1) - 1)] (n + 3, K11, F20, E18) Q
    exact s_iret 58 rfl rfl h
  · skip
    have b4 := hb
    replace h := h.2 hb
    refine s_aload_n (q := 56) 27 0 rfl rfl ?_
    refine s_bipush (q := 58) 28 rfl ?_
    refine n_callV (N := mX11_refuse) (as := [(0, (-6))]) (st := []) (q := 61) (d' := 0) 29 rfl uX11_refuse kX11_114 rfl c2 ?_
    show PW l G 0 mX11_refuse (0, 0) 0 [(0, (2, x0)), (1, (0, (-6)))] [] (n, K, F2, E) _
    refine s_aload_n (q := 1) 0 0 rfl rfl ?_
    refine s_iload_n (q := 2) 1 1 rfl rfl ?_
    refine n_putf (q := 5) (jj := 16) 2 11 16 rfl kX11_97 c2 (Or.inl rfl) ?_
    refine PW.nameF (fun F21 eF21 => ?_)
    replace h := h F21 eF21
    refine s_iload_n (q := 6) 3 1 rfl rfl ?_
    refine s_bipush (q := 8) 4 rfl ?_
    refine s_icmp_lt (q := 11) (tgt := 18) 5 rfl rfl (fun _ => ?_) (fun hb => absurd (by decide) hb)
    refine s_iload_n (q := 19) 11 1 rfl rfl ?_
    refine n_ineg (q := 20) 12 rfl (by decide) ?_
    refine PW.top (b := 6) (by decide) ?_
    refine s_iconst (q := 21) 13 rfl ?_
    refine n_isub (q := 22) 14 rfl (by decide) ?_
    refine PW.top (b := 4) (by decide) ?_
    refine s_istore_n (q := 23) (lv' := [(2, (0, 4)), (0, (2, x0)), (1, (0, (-6)))]) 15 rfl rfl ?_
    refine s_iload_n (q := 24) 16 0 rfl rfl ?_
    refine s_if_lt (q := 27) (tgt := 42) 17 rfl rfl (fun hb => absurd hb (by decide)) (fun _ => ?_)
    refine s_iload_n (q := 28) 18 0 rfl rfl ?_
    refine s_iconst (q := 29) 19 rfl ?_
    refine s_icmp_ge (q := 32) (tgt := 42) 20 rfl rfl (fun hb => absurd hb (by decide)) (fun _ => ?_)
    refine s_aload_n (q := 33) 21 1 rfl rfl ?_
    refine n_getf (q := 36) (jj := 13) 22 11 13 rfl kX11_87 c2 ?_
    refine PW.top (b := F1 x0 13) (by refine (congrFun (congrFun eF21 _) _).trans ((pUp_k (by decide)).trans ?_); exact (congrFun (congrFun eF2 _) _).trans (pUp_K c3 c2 (by decide))) ?_
    refine s_iload_n (q := 37) 23 0 rfl rfl ?_
    refine s_dup2 (q := 38) 24 rfl ?_
    obtain ⟨c35, h⟩ := h
    obtain ⟨c36, h⟩ := h
    refine n_iald (q := 39) 25 rfl c35 c36 ?_
    refine s_iconst (q := 40) 26 rfl ?_
    refine s_iadd (q := 41) 27 rfl ?_
    obtain ⟨c37, h⟩ := h
    refine n_iast (q := 42) 28 rfl c37 c35 c36 ?_
    refine PW.nameE (fun E22 eE22 => ?_)
    replace h := h E22 eE22
    refine s_iload_n (q := 43) 29 2 rfl rfl ?_
    refine s_iret 30 rfl rfl ?_
    show PW l G 83 mX11_law (3, 876) 61 [(0, (2, x0))] [(0, (-6))] (n, K, F21, E22) Q
    exact s_iret 30 rfl rfl h
