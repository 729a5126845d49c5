theorem vX4_value_0 {l : Launch} {G : pG} {bg : Nat × Nat} {n : Nat} {K : Int → Nat × Nat} {F E : Int → Int → Int} {Q : Option pV → pM → Prop} (x0 x1 x2 x3 : Int) (h : PW l G 1 mX4_value bg 6 [(0, (2, x0)), (1, (2, x1)), (3, (2, x3)), (4, (0, (-1))), (5, (0, x2))] [] (n, K, F, E) Q) : PW l G 1 mX4_value bg 0 [(0, (2, x0)), (1, (2, x1)), (2, (0, x2)), (3, (2, x3))] [] (n, K, F, E) Q := by
  refine s_iconst (q := 1) 0 rfl ?_
  refine s_istore (q := 3) (lv' := [(4, (0, (-1))), (0, (2, x0)), (1, (2, x1)), (2, (0, x2)), (3, (2, x3))]) 1 rfl rfl ?_
  refine s_iload_n (q := 4) 2 3 rfl rfl ?_
  refine s_istore (q := 6) (lv' := [(5, (0, x2)), (4, (0, (-1))), (0, (2, x0)), (1, (2, x1)), (2, (0, x2)), (3, (2, x3))]) 3 rfl rfl ?_
  refine PW.pick [2, 3, 5, 1, 0] rfl ?_
  exact h
theorem vX4_value_6 {l : Launch} {G : pG} {bg : Nat × Nat} {n : Nat} {K : Int → Nat × Nat} {F E : Int → Int → Int} {Q : Option pV → pM → Prop} (x0 x1 x3 x4 x5 : Int) (h : ((x5 < 0 → ((¬ x4 = 0 → Q (some (1, 2000000000)) (n, K, F, E)) ∧ (x4 = 0 → (K x0).1 = 4 ∧ (0 : Int) ≤ F x0 0 ∧ (K (F x0 0)).1 = 21 ∧ ((0 : Int) ≤ 0 ∧ 0 < ((K (F x0 0)).2 : Int)) ∧ Q (some (1, E (F x0 0) 0)) (n, K, F, E)))) ∧ (¬ (x5 < 0) → (-2147483648 ≤ x5 + 1 ∧ x5 + 1 < 2147483648) ∧ (K x1).1 = 20 ∧ ((((K x1).2 : Int) ≤ x5 + 1 → ((¬ x4 = 0 → Q (some (1, 2000000000)) (n, K, F, E)) ∧ (x4 = 0 → (K x0).1 = 4 ∧ (0 : Int) ≤ F x0 0 ∧ (K (F x0 0)).1 = 21 ∧ ((0 : Int) ≤ 0 ∧ 0 < ((K (F x0 0)).2 : Int)) ∧ Q (some (1, E (F x0 0) 0)) (n, K, F, E)))) ∧ (¬ (((K x1).2 : Int) ≤ x5 + 1) → ((0 : Int) ≤ x5 ∧ x5 < ((K x1).2 : Int)) ∧ ((E x1 x5 = 0 → ((¬ x4 = 0 → Q (some (1, 2000000000)) (n, K, F, E)) ∧ (x4 = 0 → (K x0).1 = 4 ∧ (0 : Int) ≤ F x0 0 ∧ (K (F x0 0)).1 = 21 ∧ ((0 : Int) ≤ 0 ∧ 0 < ((K (F x0 0)).2 : Int)) ∧ Q (some (1, E (F x0 0) 0)) (n, K, F, E)))) ∧ (¬ (E x1 x5 = 0) → ((0 : Int) ≤ x5 + 1 ∧ x5 + 1 < ((K x1).2 : Int)) ∧ ((E x1 x5 = 1 → (-2147483648 ≤ x4 + 1 ∧ x4 + 1 < 2147483648) ∧ ((64 ≤ x4 + 1 → Q (some (1, 2000000000)) (n, K, F, E)) ∧ (¬ (64 ≤ x4 + 1) → ((¬ (E x1 x5) = 2 → (K x0).1 = 4 ∧ ((¬ (E x1 x5) = 1 → (K x3).1 = 20 ∧ ((0 : Int) ≤ E x1 (x5 + 1) ∧ E x1 (x5 + 1) < ((K x3).2 : Int)) ∧ (0 : Int) ≤ F x0 0 ∧ (K (F x0 0)).1 = 21 ∧ ((0 : Int) ≤ x4 + 1 ∧ x4 + 1 < ((K (F x0 0)).2 : Int)) ∧ (∀ E1, E1 = pUp E (F x0 0) (x4 + 1) (E x3 (E x1 (x5 + 1))) → (-2147483648 ≤ x5 + 2 ∧ x5 + 2 < 2147483648) ∧ PW l G 1 mX4_value bg 6 [(0, (2, x0)), (1, (2, x1)), (3, (2, x3)), (4, (0, x4 + 1)), (5, (0, x5 + 2))] [] (n, K, F, E1) Q)) ∧ ((E x1 x5) = 1 → (0 : Int) ≤ F x0 0 ∧ (K (F x0 0)).1 = 21 ∧ ((0 : Int) ≤ x4 + 1 ∧ x4 + 1 < ((K (F x0 0)).2 : Int)) ∧ (∀ E2, E2 = pUp E (F x0 0) (x4 + 1) (E x1 (x5 + 1)) → (-2147483648 ≤ x5 + 2 ∧ x5 + 2 < 2147483648) ∧ PW l G 1 mX4_value bg 6 [(0, (2, x0)), (1, (2, x1)), (3, (2, x3)), (4, (0, x4 + 1)), (5, (0, x5 + 2))] [] (n, K, F, E2) Q)))) ∧ ((E x1 x5) = 2 → ((E x1 (x5 + 1) < 0 → Q (some (1, 2000000000)) (n, K, F, E)) ∧ (¬ (E x1 (x5 + 1) < 0) → (K x3).1 = 20 ∧ ((E x1 (x5 + 1) < ((K x3).2 : Int) → (K x0).1 = 4 ∧ ((¬ (E x1 x5) = 1 → ((0 : Int) ≤ E x1 (x5 + 1) ∧ E x1 (x5 + 1) < ((K x3).2 : Int)) ∧ (0 : Int) ≤ F x0 0 ∧ (K (F x0 0)).1 = 21 ∧ ((0 : Int) ≤ x4 + 1 ∧ x4 + 1 < ((K (F x0 0)).2 : Int)) ∧ (∀ E3, E3 = pUp E (F x0 0) (x4 + 1) (E x3 (E x1 (x5 + 1))) → (-2147483648 ≤ x5 + 2 ∧ x5 + 2 < 2147483648) ∧ PW l G 1 mX4_value bg 6 [(0, (2, x0)), (1, (2, x1)), (3, (2, x3)), (4, (0, x4 + 1)), (5, (0, x5 + 2))] [] (n, K, F, E3) Q)) ∧ ((E x1 x5) = 1 → (0 : Int) ≤ F x0 0 ∧ (K (F x0 0)).1 = 21 ∧ ((0 : Int) ≤ x4 + 1 ∧ x4 + 1 < ((K (F x0 0)).2 : Int)) ∧ (∀ E4, E4 = pUp E (F x0 0) (x4 + 1) (E x1 (x5 + 1)) → (-2147483648 ≤ x5 + 2 ∧ x5 + 2 < 2147483648) ∧ PW l G 1 mX4_value bg 6 [(0, (2, x0)), (1, (2, x1)), (3, (2, x3)), (4, (0, x4 + 1)), (5, (0, x5 + 2))] [] (n, K, F, E4) Q)))) ∧ (¬ (E x1 (x5 + 1) < ((K x3).2 : Int)) → Q (some (1, 2000000000)) (n, K, F, E)))))))))) ∧ (¬ (E x1 x5 = 1) → ((¬ (E x1 x5) = 2 → ((0 ≤ x4 → ((¬ (E x1 x5) = 3 → ((E x1 x5 = 4 → (K x0).1 = 4 ∧ (0 : Int) ≤ F x0 0 ∧ (K (F x0 0)).1 = 21 ∧ ((0 : Int) ≤ x4 ∧ x4 < ((K (F x0 0)).2 : Int)) ∧ ((¬ (E x1 x5) = 4 → ((¬ (E (F x0 0) x4) = 0 → (-2147483648 ≤ x4 - 1 ∧ x4 - 1 < 2147483648) ∧ (-2147483648 ≤ x5 + 2 ∧ x5 + 2 < 2147483648) ∧ PW l G 1 mX4_value bg 6 [(0, (2, x0)), (1, (2, x1)), (3, (2, x3)), (4, (0, x4 - 1)), (5, (0, x5 + 2))] [] (n, K, F, E) Q) ∧ ((E (F x0 0) x4) = 0 → (-2147483648 ≤ (E x1 (x5 + 1)) - 2 ∧ (E x1 (x5 + 1)) - 2 < 2147483648) ∧ (-2147483648 ≤ max x5 ((E x1 (x5 + 1)) - 2) + 2 ∧ max x5 ((E x1 (x5 + 1)) - 2) + 2 < 2147483648) ∧ PW l G 1 mX4_value bg 6 [(0, (2, x0)), (1, (2, x1)), (3, (2, x3)), (4, (0, x4)), (5, (0, max x5 ((E x1 (x5 + 1)) - 2) + 2))] [] (n, K, F, E) Q))) ∧ ((E x1 x5) = 4 → ((¬ (E (F x0 0) x4) = 1 → (-2147483648 ≤ x4 - 1 ∧ x4 - 1 < 2147483648) ∧ (-2147483648 ≤ x5 + 2 ∧ x5 + 2 < 2147483648) ∧ PW l G 1 mX4_value bg 6 [(0, (2, x0)), (1, (2, x1)), (3, (2, x3)), (4, (0, x4 - 1)), (5, (0, x5 + 2))] [] (n, K, F, E) Q) ∧ ((E (F x0 0) x4) = 1 → (-2147483648 ≤ (E x1 (x5 + 1)) - 2 ∧ (E x1 (x5 + 1)) - 2 < 2147483648) ∧ (-2147483648 ≤ max x5 ((E x1 (x5 + 1)) - 2) + 2 ∧ max x5 ((E x1 (x5 + 1)) - 2) + 2 < 2147483648) ∧ PW l G 1 mX4_value bg 6 [(0, (2, x0)), (1, (2, x1)), (3, (2, x3)), (4, (0, x4)), (5, (0, max x5 ((E x1 (x5 + 1)) - 2) + 2))] [] (n, K, F, E) Q))))) ∧ (¬ (E x1 x5 = 4) → ((¬ (E x1 x5) = 5 → ((1 ≤ x4 → (-2147483648 ≤ x4 + (-1) ∧ x4 + (-1) < 2147483648) ∧ (K x0).1 = 4 ∧ (0 : Int) ≤ F x0 0 ∧ (K (F x0 0)).1 = 21 ∧ ((0 : Int) ≤ x4 + (-1) ∧ x4 + (-1) < ((K (F x0 0)).2 : Int)) ∧ (-2147483648 ≤ (x4 + (-1)) + 1 ∧ (x4 + (-1)) + 1 < 2147483648) ∧ ((0 : Int) ≤ (x4 + (-1)) + 1 ∧ (x4 + (-1)) + 1 < ((K (F x0 0)).2 : Int)) ∧ PC l G 0 mX4_joined (0, 0) [(0, E x1 x5), (1, E (F x0 0) (x4 + (-1))), (1, E (F x0 0) ((x4 + (-1)) + 1))] (n, K, F, E) (fun r μ => PW l G 1 mX4_value bg 270 [(0, (2, x0)), (1, (2, x1)), (3, (2, x3)), (4, (0, x4 + (-1))), (5, (0, x5))] (r.toList ++ [(0, x4 + (-1)), (2, F x0 0)]) μ Q)) ∧ (¬ (1 ≤ x4) → Q (some (1, 2000000000)) (n, K, F, E)))) ∧ ((E x1 x5) = 5 → (K x0).1 = 4 ∧ (0 : Int) ≤ F x0 0 ∧ (K (F x0 0)).1 = 21 ∧ ((0 : Int) ≤ x4 ∧ x4 < ((K (F x0 0)).2 : Int)) ∧ ((¬ (E x1 x5) = 4 → ((¬ (E (F x0 0) x4) = 0 → (-2147483648 ≤ x4 - 1 ∧ x4 - 1 < 2147483648) ∧ (-2147483648 ≤ x5 + 2 ∧ x5 + 2 < 2147483648) ∧ PW l G 1 mX4_value bg 6 [(0, (2, x0)), (1, (2, x1)), (3, (2, x3)), (4, (0, x4 - 1)), (5, (0, x5 + 2))] [] (n, K, F, E) Q) ∧ ((E (F x0 0) x4) = 0 → (-2147483648 ≤ (E x1 (x5 + 1)) - 2 ∧ (E x1 (x5 + 1)) - 2 < 2147483648) ∧ (-2147483648 ≤ max x5 ((E x1 (x5 + 1)) - 2) + 2 ∧ max x5 ((E x1 (x5 + 1)) - 2) + 2 < 2147483648) ∧ PW l G 1 mX4_value bg 6 [(0, (2, x0)), (1, (2, x1)), (3, (2, x3)), (4, (0, x4)), (5, (0, max x5 ((E x1 (x5 + 1)) - 2) + 2))] [] (n, K, F, E) Q))) ∧ ((E x1 x5) = 4 → ((¬ (E (F x0 0) x4) = 1 → (-2147483648 ≤ x4 - 1 ∧ x4 - 1 < 2147483648) ∧ (-2147483648 ≤ x5 + 2 ∧ x5 + 2 < 2147483648) ∧ PW l G 1 mX4_value bg 6 [(0, (2, x0)), (1, (2, x1)), (3, (2, x3)), (4, (0, x4 - 1)), (5, (0, x5 + 2))] [] (n, K, F, E) Q) ∧ ((E (F x0 0) x4) = 1 → (-2147483648 ≤ (E x1 (x5 + 1)) - 2 ∧ (E x1 (x5 + 1)) - 2 < 2147483648) ∧ (-2147483648 ≤ max x5 ((E x1 (x5 + 1)) - 2) + 2 ∧ max x5 ((E x1 (x5 + 1)) - 2) + 2 < 2147483648) ∧ PW l G 1 mX4_value bg 6 [(0, (2, x0)), (1, (2, x1)), (3, (2, x3)), (4, (0, x4)), (5, (0, max x5 ((E x1 (x5 + 1)) - 2) + 2))] [] (n, K, F, E) Q))))))))) ∧ ((E x1 x5) = 3 → (K x0).1 = 4 ∧ (0 : Int) ≤ F x0 0 ∧ (K (F x0 0)).1 = 21 ∧ ((0 : Int) ≤ x4 ∧ x4 < ((K (F x0 0)).2 : Int)) ∧ (-9223372036854775808 ≤ 1 - (E (F x0 0) x4) ∧ 1 - (E (F x0 0) x4) < 9223372036854775808) ∧ (∀ E5, E5 = pUp E (F x0 0) x4 (1 - (E (F x0 0) x4)) → (-2147483648 ≤ x5 + 2 ∧ x5 + 2 < 2147483648) ∧ PW l G 1 mX4_value bg 6 [(0, (2, x0)), (1, (2, x1)), (3, (2, x3)), (4, (0, x4)), (5, (0, x5 + 2))] [] (n, K, F, E5) Q)))) ∧ (¬ (0 ≤ x4) → Q (some (1, 2000000000)) (n, K, F, E)))) ∧ ((E x1 x5) = 2 → (-2147483648 ≤ x4 + 1 ∧ x4 + 1 < 2147483648) ∧ ((64 ≤ x4 + 1 → Q (some (1, 2000000000)) (n, K, F, E)) ∧ (¬ (64 ≤ x4 + 1) → ((¬ (E x1 x5) = 2 → (K x0).1 = 4 ∧ ((¬ (E x1 x5) = 1 → (K x3).1 = 20 ∧ ((0 : Int) ≤ E x1 (x5 + 1) ∧ E x1 (x5 + 1) < ((K x3).2 : Int)) ∧ (0 : Int) ≤ F x0 0 ∧ (K (F x0 0)).1 = 21 ∧ ((0 : Int) ≤ x4 + 1 ∧ x4 + 1 < ((K (F x0 0)).2 : Int)) ∧ (∀ E6, E6 = pUp E (F x0 0) (x4 + 1) (E x3 (E x1 (x5 + 1))) → (-2147483648 ≤ x5 + 2 ∧ x5 + 2 < 2147483648) ∧ PW l G 1 mX4_value bg 6 [(0, (2, x0)), (1, (2, x1)), (3, (2, x3)), (4, (0, x4 + 1)), (5, (0, x5 + 2))] [] (n, K, F, E6) Q)) ∧ ((E x1 x5) = 1 → (0 : Int) ≤ F x0 0 ∧ (K (F x0 0)).1 = 21 ∧ ((0 : Int) ≤ x4 + 1 ∧ x4 + 1 < ((K (F x0 0)).2 : Int)) ∧ (∀ E7, E7 = pUp E (F x0 0) (x4 + 1) (E x1 (x5 + 1)) → (-2147483648 ≤ x5 + 2 ∧ x5 + 2 < 2147483648) ∧ PW l G 1 mX4_value bg 6 [(0, (2, x0)), (1, (2, x1)), (3, (2, x3)), (4, (0, x4 + 1)), (5, (0, x5 + 2))] [] (n, K, F, E7) Q)))) ∧ ((E x1 x5) = 2 → ((E x1 (x5 + 1) < 0 → Q (some (1, 2000000000)) (n, K, F, E)) ∧ (¬ (E x1 (x5 + 1) < 0) → (K x3).1 = 20 ∧ ((E x1 (x5 + 1) < ((K x3).2 : Int) → (K x0).1 = 4 ∧ ((¬ (E x1 x5) = 1 → ((0 : Int) ≤ E x1 (x5 + 1) ∧ E x1 (x5 + 1) < ((K x3).2 : Int)) ∧ (0 : Int) ≤ F x0 0 ∧ (K (F x0 0)).1 = 21 ∧ ((0 : Int) ≤ x4 + 1 ∧ x4 + 1 < ((K (F x0 0)).2 : Int)) ∧ (∀ E8, E8 = pUp E (F x0 0) (x4 + 1) (E x3 (E x1 (x5 + 1))) → (-2147483648 ≤ x5 + 2 ∧ x5 + 2 < 2147483648) ∧ PW l G 1 mX4_value bg 6 [(0, (2, x0)), (1, (2, x1)), (3, (2, x3)), (4, (0, x4 + 1)), (5, (0, x5 + 2))] [] (n, K, F, E8) Q)) ∧ ((E x1 x5) = 1 → (0 : Int) ≤ F x0 0 ∧ (K (F x0 0)).1 = 21 ∧ ((0 : Int) ≤ x4 + 1 ∧ x4 + 1 < ((K (F x0 0)).2 : Int)) ∧ (∀ E9, E9 = pUp E (F x0 0) (x4 + 1) (E x1 (x5 + 1)) → (-2147483648 ≤ x5 + 2 ∧ x5 + 2 < 2147483648) ∧ PW l G 1 mX4_value bg 6 [(0, (2, x0)), (1, (2, x1)), (3, (2, x3)), (4, (0, x4 + 1)), (5, (0, x5 + 2))] [] (n, K, F, E9) Q)))) ∧ (¬ (E x1 (x5 + 1) < ((K x3).2 : Int)) → Q (some (1, 2000000000)) (n, K, F, E)))))))))))))))))))) : PW l G 1 mX4_value bg 6 [(0, (2, x0)), (1, (2, x1)), (3, (2, x3)), (4, (0, x4)), (5, (0, x5))] [] (n, K, F, E) Q := by
  refine s_iload (q := 8) 4 4 rfl rfl ?_
  refine s_if_lt (q := 11) (tgt := 295) 5 rfl rfl (fun hb => ?_) (fun hb => ?_)
  · skip
    have b1 := hb
    replace h := h.1 hb
    refine s_iload (q := 297) 157 3 rfl rfl ?_
    refine s_if_ne (q := 300) (tgt := 309) 158 rfl rfl (fun hb => ?_) (fun hb => ?_)
    · skip
      have b2 := hb
      replace h := h.1 hb
      refine s_ldc2 (q := 312) (x := 2000000000) 164 rfl kX4_29 ?_
      exact s_lret 165 rfl rfl h
    · have hb := Classical.not_not.mp hb
      have b2 := hb
      replace h := h.2 hb
      refine s_aload_n (q := 301) 159 0 rfl rfl ?_
      obtain ⟨c3, h⟩ := h
      refine n_getf (q := 304) (jj := 0) 160 4 0 rfl kX4_11 c3 ?_
      refine s_iconst (q := 305) 161 rfl ?_
      obtain ⟨c4, h⟩ := h
      obtain ⟨c5, h⟩ := h
      obtain ⟨c6, h⟩ := h
      refine n_lald (q := 306) 162 rfl c4 c5 c6 ?_
      refine s_goto (tgt := 312) 163 rfl rfl ?_
      exact s_lret 165 rfl rfl h
  · skip
    have b1 := hb
    replace h := h.2 hb
    refine s_iload (q := 13) 6 4 rfl rfl ?_
    refine s_iconst (q := 14) 7 rfl ?_
    obtain ⟨c7, h⟩ := h
    refine n_iadd (q := 15) 8 rfl c7 ?_
    refine s_aload_n (q := 16) 9 1 rfl rfl ?_
    obtain ⟨c8, h⟩ := h
    refine n_alen (q := 17) 10 0 rfl c8 ?_
    refine s_icmp_ge (q := 20) (tgt := 295) 11 rfl rfl (fun hb => ?_) (fun hb => ?_)
    · skip
      have b9 := hb
      replace h := h.1 hb
      refine s_iload (q := 297) 157 3 rfl rfl ?_
      refine s_if_ne (q := 300) (tgt := 309) 158 rfl rfl (fun hb => ?_) (fun hb => ?_)
      · skip
        have b10 := hb
        replace h := h.1 hb
        refine s_ldc2 (q := 312) (x := 2000000000) 164 rfl kX4_29 ?_
        exact s_lret 165 rfl rfl h
      · have hb := Classical.not_not.mp hb
        have b10 := hb
        replace h := h.2 hb
        refine s_aload_n (q := 301) 159 0 rfl rfl ?_
        obtain ⟨c11, h⟩ := h
        refine n_getf (q := 304) (jj := 0) 160 4 0 rfl kX4_11 c11 ?_
        refine s_iconst (q := 305) 161 rfl ?_
        obtain ⟨c12, h⟩ := h
        obtain ⟨c13, h⟩ := h
        obtain ⟨c14, h⟩ := h
        refine n_lald (q := 306) 162 rfl c12 c13 c14 ?_
        refine s_goto (tgt := 312) 163 rfl rfl ?_
        exact s_lret 165 rfl rfl h
    · skip
      have b9 := hb
      replace h := h.2 hb
      refine s_aload_n (q := 21) 12 1 rfl rfl ?_
      refine s_iload (q := 23) 13 4 rfl rfl ?_
      obtain ⟨c15, h⟩ := h
      refine n_iald (q := 24) 14 rfl c8 c15 ?_
      refine s_if_eq (q := 27) (tgt := 295) 15 rfl rfl (fun hb => ?_) (fun hb => ?_)
      · skip
        have b16 := hb
        replace h := h.1 hb
        refine s_iload (q := 297) 157 3 rfl rfl ?_
        refine s_if_ne (q := 300) (tgt := 309) 158 rfl rfl (fun hb => ?_) (fun hb => ?_)
        · skip
          have b17 := hb
          replace h := h.1 hb
          refine s_ldc2 (q := 312) (x := 2000000000) 164 rfl kX4_29 ?_
          exact s_lret 165 rfl rfl h
        · have hb := Classical.not_not.mp hb
          have b17 := hb
          replace h := h.2 hb
          refine s_aload_n (q := 301) 159 0 rfl rfl ?_
          obtain ⟨c18, h⟩ := h
          refine n_getf (q := 304) (jj := 0) 160 4 0 rfl kX4_11 c18 ?_
          refine s_iconst (q := 305) 161 rfl ?_
          obtain ⟨c19, h⟩ := h
          obtain ⟨c20, h⟩ := h
          obtain ⟨c21, h⟩ := h
          refine n_lald (q := 306) 162 rfl c19 c20 c21 ?_
          refine s_goto (tgt := 312) 163 rfl rfl ?_
          exact s_lret 165 rfl rfl h
      · skip
        have b16 := hb
        replace h := h.2 hb
        refine s_aload_n (q := 28) 16 1 rfl rfl ?_
        refine s_iload (q := 30) 17 4 rfl rfl ?_
        refine n_iald (q := 31) 18 rfl c8 c15 ?_
        refine s_istore (q := 33) (lv' := [(6, (0, E x1 x5)), (0, (2, x0)), (1, (2, x1)), (3, (2, x3)), (4, (0, x4)), (5, (0, x5))]) 19 rfl rfl ?_
        refine s_aload_n (q := 34) 20 2 rfl rfl ?_
        refine s_iload (q := 36) 21 5 rfl rfl ?_
        refine s_iconst (q := 37) 22 rfl ?_
        refine n_iadd (q := 38) 23 rfl c7 ?_
        obtain ⟨c22, h⟩ := h
        refine n_iald (q := 39) 24 rfl c8 c22 ?_
        refine s_istore (q := 41) (lv' := [(7, (0, E x1 (x5 + 1))), (6, (0, E x1 x5)), (0, (2, x0)), (1, (2, x1)), (3, (2, x3)), (4, (0, x4)), (5, (0, x5))]) 25 rfl rfl ?_
        refine s_iload (q := 43) 26 1 rfl rfl ?_
        refine s_iconst (q := 44) 27 rfl ?_
        refine s_icmp_eq (q := 47) (tgt := 53) 28 rfl rfl (fun hb => ?_) (fun hb => ?_)
        · skip
          have b23 := hb
          replace h := h.1 hb
          refine s_iload (q := 55) 32 5 rfl rfl ?_
          refine s_iconst (q := 56) 33 rfl ?_
          obtain ⟨c24, h⟩ := h
          refine n_iadd (q := 57) 34 rfl c24 ?_
          refine s_bipush (q := 59) 35 rfl ?_
          refine s_icmp_ge (q := 62) (tgt := 80) 36 rfl rfl (fun hb => ?_) (fun hb => ?_)
          · skip
            have b25 := hb
            replace h := h.1 hb
            refine s_ldc2 (q := 83) (x := 2000000000) 46 rfl kX4_29 ?_
            exact s_lret 47 rfl rfl h
          · skip
            have b25 := hb
            replace h := h.2 hb
            refine s_iload (q := 64) 37 1 rfl rfl ?_
            refine s_iconst (q := 65) 38 rfl ?_
            refine s_icmp_ne (q := 68) (tgt := 84) 39 rfl rfl (fun hb => ?_) (fun hb => ?_)
            · skip
              have b26 := hb
              replace h := h.1 hb
              refine n_iinc (q := 87) (lv' := [(4, (0, x4 + 1)), (7, (0, E x1 (x5 + 1))), (6, (0, E x1 x5)), (0, (2, x0)), (1, (2, x1)), (3, (2, x3)), (5, (0, x5))]) 48 5 rfl rfl c24 rfl ?_
              refine s_aload_n (q := 88) 49 3 rfl rfl ?_
              obtain ⟨c27, h⟩ := h
              refine n_getf (q := 91) (jj := 0) 50 4 0 rfl kX4_11 c27 ?_
              refine s_iload (q := 93) 51 0 rfl rfl ?_
              refine s_iload (q := 95) 52 2 rfl rfl ?_
              refine s_iconst (q := 96) 53 rfl ?_
              refine s_icmp_ne (q := 99) (tgt := 105) 54 rfl rfl (fun hb => ?_) (fun hb => ?_)
              · skip
                have b28 := hb
                replace h := h.1 hb
                refine s_aload_n (q := 106) 58 5 rfl rfl ?_
                refine s_iload (q := 108) 59 1 rfl rfl ?_
                obtain ⟨c29, h⟩ := h
                obtain ⟨c30, h⟩ := h
                refine n_iald (q := 109) 60 rfl c29 c30 ?_
                refine s_i2l (q := 110) 61 rfl ?_
                obtain ⟨c31, h⟩ := h
                obtain ⟨c32, h⟩ := h
                obtain ⟨c33, h⟩ := h
                refine n_last (q := 111) 62 rfl c31 c32 c33 ?_
                refine PW.nameE (fun E1 eE1 => ?_)
                replace h := h E1 eE1
                refine s_goto (tgt := 289) 63 rfl rfl ?_
                obtain ⟨c34, h⟩ := h
                refine n_iinc (q := 292) (lv' := [(5, (0, x5 + 2)), (4, (0, x4 + 1)), (7, (0, E x1 (x5 + 1))), (6, (0, E x1 x5)), (0, (2, x0)), (1, (2, x1)), (3, (2, x3))]) 155 6 rfl rfl c34 rfl ?_
                refine s_goto (tgt := 6) 156 rfl rfl ?_
                refine PW.pick [4, 5, 6, 1, 0] rfl ?_
                exact h
              · have hb := Classical.not_not.mp hb
                have b28 := hb
                replace h := h.2 hb
                refine s_iload (q := 101) 55 1 rfl rfl ?_
                refine s_i2l (q := 102) 56 rfl ?_
                refine s_goto (tgt := 110) 57 rfl rfl ?_
                obtain ⟨c35, h⟩ := h
                obtain ⟨c36, h⟩ := h
                obtain ⟨c37, h⟩ := h
                refine n_last (q := 111) 62 rfl c35 c36 c37 ?_
                refine PW.nameE (fun E2 eE2 => ?_)
                replace h := h E2 eE2
                refine s_goto (tgt := 289) 63 rfl rfl ?_
                obtain ⟨c38, h⟩ := h
                refine n_iinc (q := 292) (lv' := [(5, (0, x5 + 2)), (4, (0, x4 + 1)), (7, (0, E x1 (x5 + 1))), (6, (0, E x1 x5)), (0, (2, x0)), (1, (2, x1)), (3, (2, x3))]) 155 6 rfl rfl c38 rfl ?_
                refine s_goto (tgt := 6) 156 rfl rfl ?_
                refine PW.pick [4, 5, 6, 1, 0] rfl ?_
                exact h
            · have hb := Classical.not_not.mp hb
              have b26 := hb
              replace h := h.2 hb
              refine s_iload (q := 70) 40 0 rfl rfl ?_
              refine s_if_lt (q := 73) (tgt := 80) 41 rfl rfl (fun hb => ?_) (fun hb => ?_)
              · skip
                have b39 := hb
                replace h := h.1 hb
                refine s_ldc2 (q := 83) (x := 2000000000) 46 rfl kX4_29 ?_
                exact s_lret 47 rfl rfl h
              · skip
                have b39 := hb
                replace h := h.2 hb
                refine s_iload (q := 75) 42 0 rfl rfl ?_
                refine s_aload_n (q := 76) 43 4 rfl rfl ?_
                obtain ⟨c40, h⟩ := h
                refine n_alen (q := 77) 44 0 rfl c40 ?_
                refine s_icmp_lt (q := 80) (tgt := 84) 45 rfl rfl (fun hb => ?_) (fun hb => ?_)
                · skip
                  have b41 := hb
                  replace h := h.1 hb
                  refine n_iinc (q := 87) (lv' := [(4, (0, x4 + 1)), (7, (0, E x1 (x5 + 1))), (6, (0, E x1 x5)), (0, (2, x0)), (1, (2, x1)), (3, (2, x3)), (5, (0, x5))]) 48 5 rfl rfl c24 rfl ?_
                  refine s_aload_n (q := 88) 49 3 rfl rfl ?_
                  obtain ⟨c42, h⟩ := h
                  refine n_getf (q := 91) (jj := 0) 50 4 0 rfl kX4_11 c42 ?_
                  refine s_iload (q := 93) 51 0 rfl rfl ?_
                  refine s_iload (q := 95) 52 2 rfl rfl ?_
                  refine s_iconst (q := 96) 53 rfl ?_
                  refine s_icmp_ne (q := 99) (tgt := 105) 54 rfl rfl (fun hb => ?_) (fun hb => ?_)
                  · skip
                    have b43 := hb
                    replace h := h.1 hb
                    refine s_aload_n (q := 106) 58 5 rfl rfl ?_
                    refine s_iload (q := 108) 59 1 rfl rfl ?_
                    obtain ⟨c44, h⟩ := h
                    refine n_iald (q := 109) 60 rfl c40 c44 ?_
                    refine s_i2l (q := 110) 61 rfl ?_
                    obtain ⟨c45, h⟩ := h
                    obtain ⟨c46, h⟩ := h
                    obtain ⟨c47, h⟩ := h
                    refine n_last (q := 111) 62 rfl c45 c46 c47 ?_
                    refine PW.nameE (fun E3 eE3 => ?_)
                    replace h := h E3 eE3
                    refine s_goto (tgt := 289) 63 rfl rfl ?_
                    obtain ⟨c48, h⟩ := h
                    refine n_iinc (q := 292) (lv' := [(5, (0, x5 + 2)), (4, (0, x4 + 1)), (7, (0, E x1 (x5 + 1))), (6, (0, E x1 x5)), (0, (2, x0)), (1, (2, x1)), (3, (2, x3))]) 155 6 rfl rfl c48 rfl ?_
                    refine s_goto (tgt := 6) 156 rfl rfl ?_
                    refine PW.pick [4, 5, 6, 1, 0] rfl ?_
                    exact h
                  · have hb := Classical.not_not.mp hb
                    have b43 := hb
                    replace h := h.2 hb
                    refine s_iload (q := 101) 55 1 rfl rfl ?_
                    refine s_i2l (q := 102) 56 rfl ?_
                    refine s_goto (tgt := 110) 57 rfl rfl ?_
                    obtain ⟨c49, h⟩ := h
                    obtain ⟨c50, h⟩ := h
                    obtain ⟨c51, h⟩ := h
                    refine n_last (q := 111) 62 rfl c49 c50 c51 ?_
                    refine PW.nameE (fun E4 eE4 => ?_)
                    replace h := h E4 eE4
                    refine s_goto (tgt := 289) 63 rfl rfl ?_
                    obtain ⟨c52, h⟩ := h
                    refine n_iinc (q := 292) (lv' := [(5, (0, x5 + 2)), (4, (0, x4 + 1)), (7, (0, E x1 (x5 + 1))), (6, (0, E x1 x5)), (0, (2, x0)), (1, (2, x1)), (3, (2, x3))]) 155 6 rfl rfl c52 rfl ?_
                    refine s_goto (tgt := 6) 156 rfl rfl ?_
                    refine PW.pick [4, 5, 6, 1, 0] rfl ?_
                    exact h
                · skip
                  have b41 := hb
                  replace h := h.2 hb
                  refine s_ldc2 (q := 83) (x := 2000000000) 46 rfl kX4_29 ?_
                  exact s_lret 47 rfl rfl h
        · skip
          have b23 := hb
          replace h := h.2 hb
          refine s_iload (q := 49) 29 1 rfl rfl ?_
          refine s_iconst (q := 50) 30 rfl ?_
          refine s_icmp_ne (q := 53) (tgt := 114) 31 rfl rfl (fun hb => ?_) (fun hb => ?_)
          · skip
            have b53 := hb
            replace h := h.1 hb
            refine s_iload (q := 116) 64 5 rfl rfl ?_
            refine s_if_ge (q := 119) (tgt := 123) 65 rfl rfl (fun hb => ?_) (fun hb => ?_)
            · skip
              have b54 := hb
              replace h := h.1 hb
              refine s_iload (q := 125) 68 1 rfl rfl ?_
              refine s_iconst (q := 126) 69 rfl ?_
              refine s_icmp_ne (q := 129) (tgt := 148) 70 rfl rfl (fun hb => ?_) (fun hb => ?_)
              · skip
                have b55 := hb
                replace h := h.1 hb
                refine s_iload (q := 150) 82 1 rfl rfl ?_
                refine s_iconst (q := 151) 83 rfl ?_
                refine s_icmp_eq (q := 154) (tgt := 160) 84 rfl rfl (fun hb => ?_) (fun hb => ?_)
                · skip
                  have b56 := hb
                  replace h := h.1 hb
                  refine s_aload_n (q := 161) 88 2 rfl rfl ?_
                  obtain ⟨c57, h⟩ := h
                  refine n_getf (q := 164) (jj := 0) 89 4 0 rfl kX4_11 c57 ?_
                  refine s_iload (q := 166) 90 5 rfl rfl ?_
                  obtain ⟨c58, h⟩ := h
                  obtain ⟨c59, h⟩ := h
                  obtain ⟨c60, h⟩ := h
                  refine n_lald (q := 167) 91 rfl c58 c59 c60 ?_
                  refine s_iload (q := 169) 92 1 rfl rfl ?_
                  refine s_iconst (q := 170) 93 rfl ?_
                  refine s_icmp_ne (q := 173) (tgt := 177) 94 rfl rfl (fun hb => ?_) (fun hb => ?_)
                  · skip
                    have b61 := hb
                    replace h := h.1 hb
                    refine s_iconst (q := 178) 97 rfl ?_
                    refine s_i2l (q := 179) 98 rfl ?_
                    refine s_lcmp (q := 180) 99 rfl ?_
                    refine s_if_ne (q := 183) (tgt := 187) 100 rfl rfl (fun hb => ?_) (fun hb => ?_)
                    · have hb := mt lCmp_eq.mpr hb
                      have b62 := hb
                      replace h := h.1 hb
                      refine s_iconst (q := 188) 103 rfl ?_
                      refine s_istore (q := 190) (lv' := [(8, (0, 0)), (7, (0, E x1 (x5 + 1))), (6, (0, E x1 x5)), (0, (2, x0)), (1, (2, x1)), (3, (2, x3)), (4, (0, x4)), (5, (0, x5))]) 104 rfl rfl ?_
                      refine s_iload (q := 192) 105 0 rfl rfl ?_
                      refine s_if_eq (q := 195) (tgt := 207) 106 rfl rfl (fun _ => ?_) (fun hb => absurd (by decide) hb)
                      refine s_iload (q := 209) 113 7 rfl rfl ?_
                      refine s_istore (q := 211) (lv' := [(5, (0, x5)), (8, (0, 0)), (7, (0, E x1 (x5 + 1))), (6, (0, E x1 x5)), (0, (2, x0)), (1, (2, x1)), (3, (2, x3)), (4, (0, x4))]) 114 rfl rfl ?_
                      refine s_iload (q := 213) 115 1 rfl rfl ?_
                      refine s_if_eq (q := 216) (tgt := 221) 116 rfl rfl (fun _ => ?_) (fun hb => absurd (by decide) hb)
                      refine s_iload (q := 223) 119 7 rfl rfl ?_
                      refine s_iconst (q := 224) 120 rfl ?_
                      obtain ⟨c63, h⟩ := h
                      refine n_isub (q := 225) 121 rfl c63 ?_
                      refine s_istore (q := 227) (lv' := [(4, (0, x4 - 1)), (5, (0, x5)), (8, (0, 0)), (7, (0, E x1 (x5 + 1))), (6, (0, E x1 x5)), (0, (2, x0)), (1, (2, x1)), (3, (2, x3))]) 122 rfl rfl ?_
                      refine s_goto (tgt := 289) 123 rfl rfl ?_
                      obtain ⟨c64, h⟩ := h
                      refine n_iinc (q := 292) (lv' := [(5, (0, x5 + 2)), (4, (0, x4 - 1)), (8, (0, 0)), (7, (0, E x1 (x5 + 1))), (6, (0, E x1 x5)), (0, (2, x0)), (1, (2, x1)), (3, (2, x3))]) 155 1 rfl rfl c64 rfl ?_
                      refine s_goto (tgt := 6) 156 rfl rfl ?_
                      refine PW.pick [5, 6, 7, 1, 0] rfl ?_
                      exact h
                    · have hb := lCmp_eq.mp (Classical.not_not.mp hb)
                      have b62 := hb
                      replace h := h.2 hb
                      refine s_iconst (q := 184) 101 rfl ?_
                      refine s_goto (tgt := 188) 102 rfl rfl ?_
                      refine s_istore (q := 190) (lv' := [(8, (0, 1)), (7, (0, E x1 (x5 + 1))), (6, (0, E x1 x5)), (0, (2, x0)), (1, (2, x1)), (3, (2, x3)), (4, (0, x4)), (5, (0, x5))]) 104 rfl rfl ?_
                      refine s_iload (q := 192) 105 0 rfl rfl ?_
                      refine s_if_eq (q := 195) (tgt := 207) 106 rfl rfl (fun hb => absurd hb (by decide)) (fun _ => ?_)
                      refine s_iload (q := 197) 107 7 rfl rfl ?_
                      refine s_iload (q := 199) 108 1 rfl rfl ?_
                      refine s_iconst (q := 200) 109 rfl ?_
                      obtain ⟨c65, h⟩ := h
                      refine n_isub (q := 201) 110 rfl c65 ?_
                      refine s_imax (q := 204) 111 rfl kX4_31 ?_
                      refine s_goto (tgt := 209) 112 rfl rfl ?_
                      refine s_istore (q := 211) (lv' := [(5, (0, max x5 ((E x1 (x5 + 1)) - 2))), (8, (0, 1)), (7, (0, E x1 (x5 + 1))), (6, (0, E x1 x5)), (0, (2, x0)), (1, (2, x1)), (3, (2, x3)), (4, (0, x4))]) 114 rfl rfl ?_
                      refine s_iload (q := 213) 115 1 rfl rfl ?_
                      refine s_if_eq (q := 216) (tgt := 221) 116 rfl rfl (fun hb => absurd hb (by decide)) (fun _ => ?_)
                      refine s_iload (q := 218) 117 7 rfl rfl ?_
                      refine s_goto (tgt := 225) 118 rfl rfl ?_
                      refine s_istore (q := 227) (lv' := [(4, (0, x4)), (5, (0, max x5 ((E x1 (x5 + 1)) - 2))), (8, (0, 1)), (7, (0, E x1 (x5 + 1))), (6, (0, E x1 x5)), (0, (2, x0)), (1, (2, x1)), (3, (2, x3))]) 122 rfl rfl ?_
                      refine s_goto (tgt := 289) 123 rfl rfl ?_
                      obtain ⟨c66, h⟩ := h
                      refine n_iinc (q := 292) (lv' := [(5, (0, max x5 ((E x1 (x5 + 1)) - 2) + 2)), (4, (0, x4)), (8, (0, 1)), (7, (0, E x1 (x5 + 1))), (6, (0, E x1 x5)), (0, (2, x0)), (1, (2, x1)), (3, (2, x3))]) 155 1 rfl rfl c66 rfl ?_
                      refine s_goto (tgt := 6) 156 rfl rfl ?_
                      refine PW.pick [5, 6, 7, 1, 0] rfl ?_
                      exact h
                  · have hb := Classical.not_not.mp hb
                    have b61 := hb
                    replace h := h.2 hb
                    refine s_iconst (q := 174) 95 rfl ?_
                    refine s_goto (tgt := 178) 96 rfl rfl ?_
                    refine s_i2l (q := 179) 98 rfl ?_
                    refine s_lcmp (q := 180) 99 rfl ?_
                    refine s_if_ne (q := 183) (tgt := 187) 100 rfl rfl (fun hb => ?_) (fun hb => ?_)
                    · have hb := mt lCmp_eq.mpr hb
                      have b67 := hb
                      replace h := h.1 hb
                      refine s_iconst (q := 188) 103 rfl ?_
                      refine s_istore (q := 190) (lv' := [(8, (0, 0)), (7, (0, E x1 (x5 + 1))), (6, (0, E x1 x5)), (0, (2, x0)), (1, (2, x1)), (3, (2, x3)), (4, (0, x4)), (5, (0, x5))]) 104 rfl rfl ?_
                      refine s_iload (q := 192) 105 0 rfl rfl ?_
                      refine s_if_eq (q := 195) (tgt := 207) 106 rfl rfl (fun _ => ?_) (fun hb => absurd (by decide) hb)
                      refine s_iload (q := 209) 113 7 rfl rfl ?_
                      refine s_istore (q := 211) (lv' := [(5, (0, x5)), (8, (0, 0)), (7, (0, E x1 (x5 + 1))), (6, (0, E x1 x5)), (0, (2, x0)), (1, (2, x1)), (3, (2, x3)), (4, (0, x4))]) 114 rfl rfl ?_
                      refine s_iload (q := 213) 115 1 rfl rfl ?_
                      refine s_if_eq (q := 216) (tgt := 221) 116 rfl rfl (fun _ => ?_) (fun hb => absurd (by decide) hb)
                      refine s_iload (q := 223) 119 7 rfl rfl ?_
                      refine s_iconst (q := 224) 120 rfl ?_
                      obtain ⟨c68, h⟩ := h
                      refine n_isub (q := 225) 121 rfl c68 ?_
                      refine s_istore (q := 227) (lv' := [(4, (0, x4 - 1)), (5, (0, x5)), (8, (0, 0)), (7, (0, E x1 (x5 + 1))), (6, (0, E x1 x5)), (0, (2, x0)), (1, (2, x1)), (3, (2, x3))]) 122 rfl rfl ?_
                      refine s_goto (tgt := 289) 123 rfl rfl ?_
                      obtain ⟨c69, h⟩ := h
                      refine n_iinc (q := 292) (lv' := [(5, (0, x5 + 2)), (4, (0, x4 - 1)), (8, (0, 0)), (7, (0, E x1 (x5 + 1))), (6, (0, E x1 x5)), (0, (2, x0)), (1, (2, x1)), (3, (2, x3))]) 155 1 rfl rfl c69 rfl ?_
                      refine s_goto (tgt := 6) 156 rfl rfl ?_
                      refine PW.pick [5, 6, 7, 1, 0] rfl ?_
                      exact h
                    · have hb := lCmp_eq.mp (Classical.not_not.mp hb)
                      have b67 := hb
                      replace h := h.2 hb
                      refine s_iconst (q := 184) 101 rfl ?_
                      refine s_goto (tgt := 188) 102 rfl rfl ?_
                      refine s_istore (q := 190) (lv' := [(8, (0, 1)), (7, (0, E x1 (x5 + 1))), (6, (0, E x1 x5)), (0, (2, x0)), (1, (2, x1)), (3, (2, x3)), (4, (0, x4)), (5, (0, x5))]) 104 rfl rfl ?_
                      refine s_iload (q := 192) 105 0 rfl rfl ?_
                      refine s_if_eq (q := 195) (tgt := 207) 106 rfl rfl (fun hb => absurd hb (by decide)) (fun _ => ?_)
                      refine s_iload (q := 197) 107 7 rfl rfl ?_
                      refine s_iload (q := 199) 108 1 rfl rfl ?_
                      refine s_iconst (q := 200) 109 rfl ?_
                      obtain ⟨c70, h⟩ := h
                      refine n_isub (q := 201) 110 rfl c70 ?_
                      refine s_imax (q := 204) 111 rfl kX4_31 ?_
                      refine s_goto (tgt := 209) 112 rfl rfl ?_
                      refine s_istore (q := 211) (lv' := [(5, (0, max x5 ((E x1 (x5 + 1)) - 2))), (8, (0, 1)), (7, (0, E x1 (x5 + 1))), (6, (0, E x1 x5)), (0, (2, x0)), (1, (2, x1)), (3, (2, x3)), (4, (0, x4))]) 114 rfl rfl ?_
                      refine s_iload (q := 213) 115 1 rfl rfl ?_
                      refine s_if_eq (q := 216) (tgt := 221) 116 rfl rfl (fun hb => absurd hb (by decide)) (fun _ => ?_)
                      refine s_iload (q := 218) 117 7 rfl rfl ?_
                      refine s_goto (tgt := 225) 118 rfl rfl ?_
                      refine s_istore (q := 227) (lv' := [(4, (0, x4)), (5, (0, max x5 ((E x1 (x5 + 1)) - 2))), (8, (0, 1)), (7, (0, E x1 (x5 + 1))), (6, (0, E x1 x5)), (0, (2, x0)), (1, (2, x1)), (3, (2, x3))]) 122 rfl rfl ?_
                      refine s_goto (tgt := 289) 123 rfl rfl ?_
                      obtain ⟨c71, h⟩ := h
                      refine n_iinc (q := 292) (lv' := [(5, (0, max x5 ((E x1 (x5 + 1)) - 2) + 2)), (4, (0, x4)), (8, (0, 1)), (7, (0, E x1 (x5 + 1))), (6, (0, E x1 x5)), (0, (2, x0)), (1, (2, x1)), (3, (2, x3))]) 155 1 rfl rfl c71 rfl ?_
                      refine s_goto (tgt := 6) 156 rfl rfl ?_
                      refine PW.pick [5, 6, 7, 1, 0] rfl ?_
                      exact h
                · skip
                  have b56 := hb
                  replace h := h.2 hb
                  refine s_iload (q := 156) 85 1 rfl rfl ?_
                  refine s_iconst (q := 157) 86 rfl ?_
                  refine s_icmp_ne (q := 160) (tgt := 230) 87 rfl rfl (fun hb => ?_) (fun hb => ?_)
                  · skip
                    have b72 := hb
                    replace h := h.1 hb
                    refine s_iload (q := 232) 124 5 rfl rfl ?_
                    refine s_iconst (q := 233) 125 rfl ?_
                    refine s_icmp_ge (q := 236) (tgt := 240) 126 rfl rfl (fun hb => ?_) (fun hb => ?_)
                    · skip
                      have b73 := hb
                      replace h := h.1 hb
                      obtain ⟨c74, h⟩ := h
                      refine n_iinc (q := 243) (lv' := [(4, (0, x4 + (-1))), (7, (0, E x1 (x5 + 1))), (6, (0, E x1 x5)), (0, (2, x0)), (1, (2, x1)), (3, (2, x3)), (5, (0, x5))]) 129 5 rfl rfl c74 rfl ?_
                      refine s_aload_n (q := 244) 130 3 rfl rfl ?_
                      obtain ⟨c75, h⟩ := h
                      refine n_getf (q := 247) (jj := 0) 131 4 0 rfl kX4_11 c75 ?_
                      refine s_iload (q := 249) 132 0 rfl rfl ?_
                      refine s_iload (q := 251) 133 2 rfl rfl ?_
                      refine s_aload_n (q := 252) 134 3 rfl rfl ?_
                      refine n_getf (q := 255) (jj := 0) 135 4 0 rfl kX4_11 c75 ?_
                      refine s_iload (q := 257) 136 0 rfl rfl ?_
                      obtain ⟨c76, h⟩ := h
                      obtain ⟨c77, h⟩ := h
                      obtain ⟨c78, h⟩ := h
                      refine n_lald (q := 258) 137 rfl c76 c77 c78 ?_
                      refine s_aload_n (q := 259) 138 3 rfl rfl ?_
                      refine n_getf (q := 262) (jj := 0) 139 4 0 rfl kX4_11 c75 ?_
                      refine s_iload (q := 264) 140 0 rfl rfl ?_
                      refine s_iconst (q := 265) 141 rfl ?_
                      obtain ⟨c79, h⟩ := h
                      refine n_iadd (q := 266) 142 rfl c79 ?_
                      obtain ⟨c80, h⟩ := h
                      refine n_lald (q := 267) 143 rfl c76 c77 c80 ?_
                      refine PW.pick [3, 4, 5, 0, 6] rfl ?_
                      exact n_callS (N := mX4_joined) (as := [(0, E x1 x5), (1, E (F x0 0) (x4 + (-1))), (1, E (F x0 0) ((x4 + (-1)) + 1))]) (st := [(0, x4 + (-1)), (2, F x0 0)]) (q := 270) (d' := 0) 144 rfl uX4_joined kX4_36 rfl h
                    · skip
                      have b73 := hb
                      replace h := h.2 hb
                      refine s_ldc2 (q := 239) (x := 2000000000) 127 rfl kX4_29 ?_
                      exact s_lret 128 rfl rfl h
                  · have hb := Classical.not_not.mp hb
                    have b72 := hb
                    replace h := h.2 hb
                    refine s_aload_n (q := 161) 88 2 rfl rfl ?_
                    obtain ⟨c81, h⟩ := h
                    refine n_getf (q := 164) (jj := 0) 89 4 0 rfl kX4_11 c81 ?_
                    refine s_iload (q := 166) 90 5 rfl rfl ?_
                    obtain ⟨c82, h⟩ := h
                    obtain ⟨c83, h⟩ := h
                    obtain ⟨c84, h⟩ := h
                    refine n_lald (q := 167) 91 rfl c82 c83 c84 ?_
                    refine s_iload (q := 169) 92 1 rfl rfl ?_
                    refine s_iconst (q := 170) 93 rfl ?_
                    refine s_icmp_ne (q := 173) (tgt := 177) 94 rfl rfl (fun hb => ?_) (fun hb => ?_)
                    · skip
                      have b85 := hb
                      replace h := h.1 hb
                      refine s_iconst (q := 178) 97 rfl ?_
                      refine s_i2l (q := 179) 98 rfl ?_
                      refine s_lcmp (q := 180) 99 rfl ?_
                      refine s_if_ne (q := 183) (tgt := 187) 100 rfl rfl (fun hb => ?_) (fun hb => ?_)
                      · have hb := mt lCmp_eq.mpr hb
                        have b86 := hb
                        replace h := h.1 hb
                        refine s_iconst (q := 188) 103 rfl ?_
                        refine s_istore (q := 190) (lv' := [(8, (0, 0)), (7, (0, E x1 (x5 + 1))), (6, (0, E x1 x5)), (0, (2, x0)), (1, (2, x1)), (3, (2, x3)), (4, (0, x4)), (5, (0, x5))]) 104 rfl rfl ?_
                        refine s_iload (q := 192) 105 0 rfl rfl ?_
                        refine s_if_eq (q := 195) (tgt := 207) 106 rfl rfl (fun _ => ?_) (fun hb => absurd (by decide) hb)
                        refine s_iload (q := 209) 113 7 rfl rfl ?_
                        refine s_istore (q := 211) (lv' := [(5, (0, x5)), (8, (0, 0)), (7, (0, E x1 (x5 + 1))), (6, (0, E x1 x5)), (0, (2, x0)), (1, (2, x1)), (3, (2, x3)), (4, (0, x4))]) 114 rfl rfl ?_
                        refine s_iload (q := 213) 115 1 rfl rfl ?_
                        refine s_if_eq (q := 216) (tgt := 221) 116 rfl rfl (fun _ => ?_) (fun hb => absurd (by decide) hb)
                        refine s_iload (q := 223) 119 7 rfl rfl ?_
                        refine s_iconst (q := 224) 120 rfl ?_
                        obtain ⟨c87, h⟩ := h
                        refine n_isub (q := 225) 121 rfl c87 ?_
                        refine s_istore (q := 227) (lv' := [(4, (0, x4 - 1)), (5, (0, x5)), (8, (0, 0)), (7, (0, E x1 (x5 + 1))), (6, (0, E x1 x5)), (0, (2, x0)), (1, (2, x1)), (3, (2, x3))]) 122 rfl rfl ?_
                        refine s_goto (tgt := 289) 123 rfl rfl ?_
                        obtain ⟨c88, h⟩ := h
                        refine n_iinc (q := 292) (lv' := [(5, (0, x5 + 2)), (4, (0, x4 - 1)), (8, (0, 0)), (7, (0, E x1 (x5 + 1))), (6, (0, E x1 x5)), (0, (2, x0)), (1, (2, x1)), (3, (2, x3))]) 155 1 rfl rfl c88 rfl ?_
                        refine s_goto (tgt := 6) 156 rfl rfl ?_
                        refine PW.pick [5, 6, 7, 1, 0] rfl ?_
                        exact h
                      · have hb := lCmp_eq.mp (Classical.not_not.mp hb)
                        have b86 := hb
                        replace h := h.2 hb
                        refine s_iconst (q := 184) 101 rfl ?_
                        refine s_goto (tgt := 188) 102 rfl rfl ?_
                        refine s_istore (q := 190) (lv' := [(8, (0, 1)), (7, (0, E x1 (x5 + 1))), (6, (0, E x1 x5)), (0, (2, x0)), (1, (2, x1)), (3, (2, x3)), (4, (0, x4)), (5, (0, x5))]) 104 rfl rfl ?_
                        refine s_iload (q := 192) 105 0 rfl rfl ?_
                        refine s_if_eq (q := 195) (tgt := 207) 106 rfl rfl (fun hb => absurd hb (by decide)) (fun _ => ?_)
                        refine s_iload (q := 197) 107 7 rfl rfl ?_
                        refine s_iload (q := 199) 108 1 rfl rfl ?_
                        refine s_iconst (q := 200) 109 rfl ?_
                        obtain ⟨c89, h⟩ := h
                        refine n_isub (q := 201) 110 rfl c89 ?_
                        refine s_imax (q := 204) 111 rfl kX4_31 ?_
                        refine s_goto (tgt := 209) 112 rfl rfl ?_
                        refine s_istore (q := 211) (lv' := [(5, (0, max x5 ((E x1 (x5 + 1)) - 2))), (8, (0, 1)), (7, (0, E x1 (x5 + 1))), (6, (0, E x1 x5)), (0, (2, x0)), (1, (2, x1)), (3, (2, x3)), (4, (0, x4))]) 114 rfl rfl ?_
                        refine s_iload (q := 213) 115 1 rfl rfl ?_
                        refine s_if_eq (q := 216) (tgt := 221) 116 rfl rfl (fun hb => absurd hb (by decide)) (fun _ => ?_)
                        refine s_iload (q := 218) 117 7 rfl rfl ?_
                        refine s_goto (tgt := 225) 118 rfl rfl ?_
                        refine s_istore (q := 227) (lv' := [(4, (0, x4)), (5, (0, max x5 ((E x1 (x5 + 1)) - 2))), (8, (0, 1)), (7, (0, E x1 (x5 + 1))), (6, (0, E x1 x5)), (0, (2, x0)), (1, (2, x1)), (3, (2, x3))]) 122 rfl rfl ?_
                        refine s_goto (tgt := 289) 123 rfl rfl ?_
                        obtain ⟨c90, h⟩ := h
                        refine n_iinc (q := 292) (lv' := [(5, (0, max x5 ((E x1 (x5 + 1)) - 2) + 2)), (4, (0, x4)), (8, (0, 1)), (7, (0, E x1 (x5 + 1))), (6, (0, E x1 x5)), (0, (2, x0)), (1, (2, x1)), (3, (2, x3))]) 155 1 rfl rfl c90 rfl ?_
                        refine s_goto (tgt := 6) 156 rfl rfl ?_
                        refine PW.pick [5, 6, 7, 1, 0] rfl ?_
                        exact h
                    · have hb := Classical.not_not.mp hb
                      have b85 := hb
                      replace h := h.2 hb
                      refine s_iconst (q := 174) 95 rfl ?_
                      refine s_goto (tgt := 178) 96 rfl rfl ?_
                      refine s_i2l (q := 179) 98 rfl ?_
                      refine s_lcmp (q := 180) 99 rfl ?_
                      refine s_if_ne (q := 183) (tgt := 187) 100 rfl rfl (fun hb => ?_) (fun hb => ?_)
                      · have hb := mt lCmp_eq.mpr hb
                        have b91 := hb
                        replace h := h.1 hb
                        refine s_iconst (q := 188) 103 rfl ?_
                        refine s_istore (q := 190) (lv' := [(8, (0, 0)), (7, (0, E x1 (x5 + 1))), (6, (0, E x1 x5)), (0, (2, x0)), (1, (2, x1)), (3, (2, x3)), (4, (0, x4)), (5, (0, x5))]) 104 rfl rfl ?_
                        refine s_iload (q := 192) 105 0 rfl rfl ?_
                        refine s_if_eq (q := 195) (tgt := 207) 106 rfl rfl (fun _ => ?_) (fun hb => absurd (by decide) hb)
                        refine s_iload (q := 209) 113 7 rfl rfl ?_
                        refine s_istore (q := 211) (lv' := [(5, (0, x5)), (8, (0, 0)), (7, (0, E x1 (x5 + 1))), (6, (0, E x1 x5)), (0, (2, x0)), (1, (2, x1)), (3, (2, x3)), (4, (0, x4))]) 114 rfl rfl ?_
                        refine s_iload (q := 213) 115 1 rfl rfl ?_
                        refine s_if_eq (q := 216) (tgt := 221) 116 rfl rfl (fun _ => ?_) (fun hb => absurd (by decide) hb)
                        refine s_iload (q := 223) 119 7 rfl rfl ?_
                        refine s_iconst (q := 224) 120 rfl ?_
                        obtain ⟨c92, h⟩ := h
                        refine n_isub (q := 225) 121 rfl c92 ?_
                        refine s_istore (q := 227) (lv' := [(4, (0, x4 - 1)), (5, (0, x5)), (8, (0, 0)), (7, (0, E x1 (x5 + 1))), (6, (0, E x1 x5)), (0, (2, x0)), (1, (2, x1)), (3, (2, x3))]) 122 rfl rfl ?_
                        refine s_goto (tgt := 289) 123 rfl rfl ?_
                        obtain ⟨c93, h⟩ := h
                        refine n_iinc (q := 292) (lv' := [(5, (0, x5 + 2)), (4, (0, x4 - 1)), (8, (0, 0)), (7, (0, E x1 (x5 + 1))), (6, (0, E x1 x5)), (0, (2, x0)), (1, (2, x1)), (3, (2, x3))]) 155 1 rfl rfl c93 rfl ?_
                        refine s_goto (tgt := 6) 156 rfl rfl ?_
                        refine PW.pick [5, 6, 7, 1, 0] rfl ?_
                        exact h
                      · have hb := lCmp_eq.mp (Classical.not_not.mp hb)
                        have b91 := hb
                        replace h := h.2 hb
                        refine s_iconst (q := 184) 101 rfl ?_
                        refine s_goto (tgt := 188) 102 rfl rfl ?_
                        refine s_istore (q := 190) (lv' := [(8, (0, 1)), (7, (0, E x1 (x5 + 1))), (6, (0, E x1 x5)), (0, (2, x0)), (1, (2, x1)), (3, (2, x3)), (4, (0, x4)), (5, (0, x5))]) 104 rfl rfl ?_
                        refine s_iload (q := 192) 105 0 rfl rfl ?_
                        refine s_if_eq (q := 195) (tgt := 207) 106 rfl rfl (fun hb => absurd hb (by decide)) (fun _ => ?_)
                        refine s_iload (q := 197) 107 7 rfl rfl ?_
                        refine s_iload (q := 199) 108 1 rfl rfl ?_
                        refine s_iconst (q := 200) 109 rfl ?_
                        obtain ⟨c94, h⟩ := h
                        refine n_isub (q := 201) 110 rfl c94 ?_
                        refine s_imax (q := 204) 111 rfl kX4_31 ?_
                        refine s_goto (tgt := 209) 112 rfl rfl ?_
                        refine s_istore (q := 211) (lv' := [(5, (0, max x5 ((E x1 (x5 + 1)) - 2))), (8, (0, 1)), (7, (0, E x1 (x5 + 1))), (6, (0, E x1 x5)), (0, (2, x0)), (1, (2, x1)), (3, (2, x3)), (4, (0, x4))]) 114 rfl rfl ?_
                        refine s_iload (q := 213) 115 1 rfl rfl ?_
                        refine s_if_eq (q := 216) (tgt := 221) 116 rfl rfl (fun hb => absurd hb (by decide)) (fun _ => ?_)
                        refine s_iload (q := 218) 117 7 rfl rfl ?_
                        refine s_goto (tgt := 225) 118 rfl rfl ?_
                        refine s_istore (q := 227) (lv' := [(4, (0, x4)), (5, (0, max x5 ((E x1 (x5 + 1)) - 2))), (8, (0, 1)), (7, (0, E x1 (x5 + 1))), (6, (0, E x1 x5)), (0, (2, x0)), (1, (2, x1)), (3, (2, x3))]) 122 rfl rfl ?_
                        refine s_goto (tgt := 289) 123 rfl rfl ?_
                        obtain ⟨c95, h⟩ := h
                        refine n_iinc (q := 292) (lv' := [(5, (0, max x5 ((E x1 (x5 + 1)) - 2) + 2)), (4, (0, x4)), (8, (0, 1)), (7, (0, E x1 (x5 + 1))), (6, (0, E x1 x5)), (0, (2, x0)), (1, (2, x1)), (3, (2, x3))]) 155 1 rfl rfl c95 rfl ?_
                        refine s_goto (tgt := 6) 156 rfl rfl ?_
                        refine PW.pick [5, 6, 7, 1, 0] rfl ?_
                        exact h
              · have hb := Classical.not_not.mp hb
                have b55 := hb
                replace h := h.2 hb
                refine s_aload_n (q := 130) 71 2 rfl rfl ?_
                obtain ⟨c96, h⟩ := h
                refine n_getf (q := 133) (jj := 0) 72 4 0 rfl kX4_11 c96 ?_
                refine s_iload (q := 135) 73 5 rfl rfl ?_
                refine s_lconst (q := 136) (x := 1) 74 rfl ?_
                refine s_aload_n (q := 137) 75 2 rfl rfl ?_
                refine n_getf (q := 140) (jj := 0) 76 4 0 rfl kX4_11 c96 ?_
                refine s_iload (q := 142) 77 5 rfl rfl ?_
                obtain ⟨c97, h⟩ := h
                obtain ⟨c98, h⟩ := h
                obtain ⟨c99, h⟩ := h
                refine n_lald (q := 143) 78 rfl c97 c98 c99 ?_
                obtain ⟨c100, h⟩ := h
                refine n_lsub (q := 144) 79 rfl c100 ?_
                refine n_last (q := 145) 80 rfl c97 c98 c99 ?_
                refine PW.nameE (fun E5 eE5 => ?_)
                replace h := h E5 eE5
                refine s_goto (tgt := 289) 81 rfl rfl ?_
                obtain ⟨c101, h⟩ := h
                refine n_iinc (q := 292) (lv' := [(5, (0, x5 + 2)), (7, (0, E x1 (x5 + 1))), (6, (0, E x1 x5)), (0, (2, x0)), (1, (2, x1)), (3, (2, x3)), (4, (0, x4))]) 155 6 rfl rfl c101 rfl ?_
                refine s_goto (tgt := 6) 156 rfl rfl ?_
                refine PW.pick [3, 4, 5, 6, 0] rfl ?_
                exact h
            · skip
              have b54 := hb
              replace h := h.2 hb
              refine s_ldc2 (q := 122) (x := 2000000000) 66 rfl kX4_29 ?_
              exact s_lret 67 rfl rfl h
          · have hb := Classical.not_not.mp hb
            have b53 := hb
            replace h := h.2 hb
            refine s_iload (q := 55) 32 5 rfl rfl ?_
            refine s_iconst (q := 56) 33 rfl ?_
            obtain ⟨c102, h⟩ := h
            refine n_iadd (q := 57) 34 rfl c102 ?_
            refine s_bipush (q := 59) 35 rfl ?_
            refine s_icmp_ge (q := 62) (tgt := 80) 36 rfl rfl (fun hb => ?_) (fun hb => ?_)
            · skip
              have b103 := hb
              replace h := h.1 hb
              refine s_ldc2 (q := 83) (x := 2000000000) 46 rfl kX4_29 ?_
              exact s_lret 47 rfl rfl h
            · skip
              have b103 := hb
              replace h := h.2 hb
              refine s_iload (q := 64) 37 1 rfl rfl ?_
              refine s_iconst (q := 65) 38 rfl ?_
              refine s_icmp_ne (q := 68) (tgt := 84) 39 rfl rfl (fun hb => ?_) (fun hb => ?_)
              · skip
                have b104 := hb
                replace h := h.1 hb
                refine n_iinc (q := 87) (lv' := [(4, (0, x4 + 1)), (7, (0, E x1 (x5 + 1))), (6, (0, E x1 x5)), (0, (2, x0)), (1, (2, x1)), (3, (2, x3)), (5, (0, x5))]) 48 5 rfl rfl c102 rfl ?_
                refine s_aload_n (q := 88) 49 3 rfl rfl ?_
                obtain ⟨c105, h⟩ := h
                refine n_getf (q := 91) (jj := 0) 50 4 0 rfl kX4_11 c105 ?_
                refine s_iload (q := 93) 51 0 rfl rfl ?_
                refine s_iload (q := 95) 52 2 rfl rfl ?_
                refine s_iconst (q := 96) 53 rfl ?_
                refine s_icmp_ne (q := 99) (tgt := 105) 54 rfl rfl (fun hb => ?_) (fun hb => ?_)
                · skip
                  have b106 := hb
                  replace h := h.1 hb
                  refine s_aload_n (q := 106) 58 5 rfl rfl ?_
                  refine s_iload (q := 108) 59 1 rfl rfl ?_
                  obtain ⟨c107, h⟩ := h
                  obtain ⟨c108, h⟩ := h
                  refine n_iald (q := 109) 60 rfl c107 c108 ?_
                  refine s_i2l (q := 110) 61 rfl ?_
                  obtain ⟨c109, h⟩ := h
                  obtain ⟨c110, h⟩ := h
                  obtain ⟨c111, h⟩ := h
                  refine n_last (q := 111) 62 rfl c109 c110 c111 ?_
                  refine PW.nameE (fun E6 eE6 => ?_)
                  replace h := h E6 eE6
                  refine s_goto (tgt := 289) 63 rfl rfl ?_
                  obtain ⟨c112, h⟩ := h
                  refine n_iinc (q := 292) (lv' := [(5, (0, x5 + 2)), (4, (0, x4 + 1)), (7, (0, E x1 (x5 + 1))), (6, (0, E x1 x5)), (0, (2, x0)), (1, (2, x1)), (3, (2, x3))]) 155 6 rfl rfl c112 rfl ?_
                  refine s_goto (tgt := 6) 156 rfl rfl ?_
                  refine PW.pick [4, 5, 6, 1, 0] rfl ?_
                  exact h
                · have hb := Classical.not_not.mp hb
                  have b106 := hb
                  replace h := h.2 hb
                  refine s_iload (q := 101) 55 1 rfl rfl ?_
                  refine s_i2l (q := 102) 56 rfl ?_
                  refine s_goto (tgt := 110) 57 rfl rfl ?_
                  obtain ⟨c113, h⟩ := h
                  obtain ⟨c114, h⟩ := h
                  obtain ⟨c115, h⟩ := h
                  refine n_last (q := 111) 62 rfl c113 c114 c115 ?_
                  refine PW.nameE (fun E7 eE7 => ?_)
                  replace h := h E7 eE7
                  refine s_goto (tgt := 289) 63 rfl rfl ?_
                  obtain ⟨c116, h⟩ := h
                  refine n_iinc (q := 292) (lv' := [(5, (0, x5 + 2)), (4, (0, x4 + 1)), (7, (0, E x1 (x5 + 1))), (6, (0, E x1 x5)), (0, (2, x0)), (1, (2, x1)), (3, (2, x3))]) 155 6 rfl rfl c116 rfl ?_
                  refine s_goto (tgt := 6) 156 rfl rfl ?_
                  refine PW.pick [4, 5, 6, 1, 0] rfl ?_
                  exact h
              · have hb := Classical.not_not.mp hb
                have b104 := hb
                replace h := h.2 hb
                refine s_iload (q := 70) 40 0 rfl rfl ?_
                refine s_if_lt (q := 73) (tgt := 80) 41 rfl rfl (fun hb => ?_) (fun hb => ?_)
                · skip
                  have b117 := hb
                  replace h := h.1 hb
                  refine s_ldc2 (q := 83) (x := 2000000000) 46 rfl kX4_29 ?_
                  exact s_lret 47 rfl rfl h
                · skip
                  have b117 := hb
                  replace h := h.2 hb
                  refine s_iload (q := 75) 42 0 rfl rfl ?_
                  refine s_aload_n (q := 76) 43 4 rfl rfl ?_
                  obtain ⟨c118, h⟩ := h
                  refine n_alen (q := 77) 44 0 rfl c118 ?_
                  refine s_icmp_lt (q := 80) (tgt := 84) 45 rfl rfl (fun hb => ?_) (fun hb => ?_)
                  · skip
                    have b119 := hb
                    replace h := h.1 hb
                    refine n_iinc (q := 87) (lv' := [(4, (0, x4 + 1)), (7, (0, E x1 (x5 + 1))), (6, (0, E x1 x5)), (0, (2, x0)), (1, (2, x1)), (3, (2, x3)), (5, (0, x5))]) 48 5 rfl rfl c102 rfl ?_
                    refine s_aload_n (q := 88) 49 3 rfl rfl ?_
                    obtain ⟨c120, h⟩ := h
                    refine n_getf (q := 91) (jj := 0) 50 4 0 rfl kX4_11 c120 ?_
                    refine s_iload (q := 93) 51 0 rfl rfl ?_
                    refine s_iload (q := 95) 52 2 rfl rfl ?_
                    refine s_iconst (q := 96) 53 rfl ?_
                    refine s_icmp_ne (q := 99) (tgt := 105) 54 rfl rfl (fun hb => ?_) (fun hb => ?_)
                    · skip
                      have b121 := hb
                      replace h := h.1 hb
                      refine s_aload_n (q := 106) 58 5 rfl rfl ?_
                      refine s_iload (q := 108) 59 1 rfl rfl ?_
                      obtain ⟨c122, h⟩ := h
                      refine n_iald (q := 109) 60 rfl c118 c122 ?_
                      refine s_i2l (q := 110) 61 rfl ?_
                      obtain ⟨c123, h⟩ := h
                      obtain ⟨c124, h⟩ := h
                      obtain ⟨c125, h⟩ := h
                      refine n_last (q := 111) 62 rfl c123 c124 c125 ?_
                      refine PW.nameE (fun E8 eE8 => ?_)
                      replace h := h E8 eE8
                      refine s_goto (tgt := 289) 63 rfl rfl ?_
                      obtain ⟨c126, h⟩ := h
                      refine n_iinc (q := 292) (lv' := [(5, (0, x5 + 2)), (4, (0, x4 + 1)), (7, (0, E x1 (x5 + 1))), (6, (0, E x1 x5)), (0, (2, x0)), (1, (2, x1)), (3, (2, x3))]) 155 6 rfl rfl c126 rfl ?_
                      refine s_goto (tgt := 6) 156 rfl rfl ?_
                      refine PW.pick [4, 5, 6, 1, 0] rfl ?_
                      exact h
                    · have hb := Classical.not_not.mp hb
                      have b121 := hb
                      replace h := h.2 hb
                      refine s_iload (q := 101) 55 1 rfl rfl ?_
                      refine s_i2l (q := 102) 56 rfl ?_
                      refine s_goto (tgt := 110) 57 rfl rfl ?_
                      obtain ⟨c127, h⟩ := h
                      obtain ⟨c128, h⟩ := h
                      obtain ⟨c129, h⟩ := h
                      refine n_last (q := 111) 62 rfl c127 c128 c129 ?_
                      refine PW.nameE (fun E9 eE9 => ?_)
                      replace h := h E9 eE9
                      refine s_goto (tgt := 289) 63 rfl rfl ?_
                      obtain ⟨c130, h⟩ := h
                      refine n_iinc (q := 292) (lv' := [(5, (0, x5 + 2)), (4, (0, x4 + 1)), (7, (0, E x1 (x5 + 1))), (6, (0, E x1 x5)), (0, (2, x0)), (1, (2, x1)), (3, (2, x3))]) 155 6 rfl rfl c130 rfl ?_
                      refine s_goto (tgt := 6) 156 rfl rfl ?_
                      refine PW.pick [4, 5, 6, 1, 0] rfl ?_
                      exact h
                  · skip
                    have b119 := hb
                    replace h := h.2 hb
                    refine s_ldc2 (q := 83) (x := 2000000000) 46 rfl kX4_29 ?_
                    exact s_lret 47 rfl rfl h
theorem vX4_value_270 {l : Launch} {G : pG} {bg : Nat × Nat} {n : Nat} {K : Int → Nat × Nat} {F E : Int → Int → Int} {Q : Option pV → pM → Prop} (x0 x1 x3 x4 x5 s0 s1 s2 : Int) (h : (0 : Int) ≤ s2 ∧ (K s2).1 = 21 ∧ ((0 : Int) ≤ s1 ∧ s1 < ((K s2).2 : Int)) ∧ (∀ E1, E1 = pUp E s2 s1 s0 → (K x0).1 = 4 ∧ (0 : Int) ≤ F x0 0 ∧ (K (F x0 0)).1 = 21 ∧ ((0 : Int) ≤ x4 ∧ x4 < ((K (F x0 0)).2 : Int)) ∧ ((¬ (E1 (F x0 0) x4) = 2000000000 → (-2147483648 ≤ x5 + 2 ∧ x5 + 2 < 2147483648) ∧ PW l G 1 mX4_value bg 6 [(0, (2, x0)), (1, (2, x1)), (3, (2, x3)), (4, (0, x4)), (5, (0, x5 + 2))] [] (n, K, F, E1) Q) ∧ ((E1 (F x0 0) x4) = 2000000000 → Q (some (1, 2000000000)) (n, K, F, E1))))) : PW l G 1 mX4_value bg 270 [(0, (2, x0)), (1, (2, x1)), (3, (2, x3)), (4, (0, x4)), (5, (0, x5))] [(1, s0), (0, s1), (2, s2)] (n, K, F, E) Q := by
  obtain ⟨c1, h⟩ := h
  obtain ⟨c2, h⟩ := h
  obtain ⟨c3, h⟩ := h
  refine n_last (q := 271) 145 rfl c1 c2 c3 ?_
  refine PW.nameE (fun E1 eE1 => ?_)
  replace h := h E1 eE1
  refine s_aload_n (q := 272) 146 0 rfl rfl ?_
  obtain ⟨c4, h⟩ := h
  refine n_getf (q := 275) (jj := 0) 147 4 0 rfl kX4_11 c4 ?_
  refine s_iload (q := 277) 148 3 rfl rfl ?_
  obtain ⟨c5, h⟩ := h
  obtain ⟨c6, h⟩ := h
  obtain ⟨c7, h⟩ := h
  refine n_lald (q := 278) 149 rfl c5 c6 c7 ?_
  refine s_ldc2 (q := 281) (x := 2000000000) 150 rfl kX4_29 ?_
  refine s_lcmp (q := 282) 151 rfl ?_
  refine s_if_ne (q := 285) (tgt := 289) 152 rfl rfl (fun hb => ?_) (fun hb => ?_)
  · have hb := mt lCmp_eq.mpr hb
    have b8 := hb
    replace h := h.1 hb
    obtain ⟨c9, h⟩ := h
    refine n_iinc (q := 292) (lv' := [(5, (0, x5 + 2)), (0, (2, x0)), (1, (2, x1)), (3, (2, x3)), (4, (0, x4))]) 155 4 rfl rfl c9 rfl ?_
    refine s_goto (tgt := 6) 156 rfl rfl ?_
    refine PW.pick [1, 2, 3, 4, 0] rfl ?_
    exact h
  · have hb := lCmp_eq.mp (Classical.not_not.mp hb)
    have b8 := hb
    replace h := h.2 hb
    refine s_ldc2 (q := 288) (x := 2000000000) 153 rfl kX4_29 ?_
    exact s_lret 154 rfl rfl h
theorem vX4_joined_0 {l : Launch} {G : pG} {bg : Nat × Nat} {n : Nat} {K : Int → Nat × Nat} {F E : Int → Int → Int} {Q : Option pV → pM → Prop} (x0 x1 x3 : Int) (h : ((x0 = 9 → ((¬ x3 = 0 → (((x0 < 6 ∨ 12 < x0) → ((¬ x1 = x3 → PW l G 0 mX4_joined bg 149 [(5, (1, 0))] [] (n, K, F, E) Q) ∧ (x1 = x3 → PW l G 0 mX4_joined bg 149 [(5, (1, 1))] [] (n, K, F, E) Q))) ∧ (x0 = 6 → (-9223372036854775808 ≤ x1 + x3 ∧ x1 + x3 < 9223372036854775808) ∧ PW l G 0 mX4_joined bg 149 [(5, (1, x1 + x3))] [] (n, K, F, E) Q) ∧ (x0 = 7 → (-9223372036854775808 ≤ x1 - x3 ∧ x1 - x3 < 9223372036854775808) ∧ PW l G 0 mX4_joined bg 149 [(5, (1, x1 - x3))] [] (n, K, F, E) Q) ∧ (x0 = 8 → PW l G 0 mX4_joined bg 149 [(5, (1, w64 (x1 * x3)))] [] (n, K, F, E) Q) ∧ (x0 = 9 → PW l G 0 mX4_joined bg 149 [(5, (1, w64 (x1.tdiv x3)))] [] (n, K, F, E) Q) ∧ (x0 = 10 → PW l G 0 mX4_joined bg 149 [(5, (1, x1.tmod x3))] [] (n, K, F, E) Q) ∧ (x0 = 11 → ((x3 ≤ x1 → PW l G 0 mX4_joined bg 149 [(5, (1, 0))] [] (n, K, F, E) Q) ∧ (¬ (x3 ≤ x1) → PW l G 0 mX4_joined bg 149 [(5, (1, 1))] [] (n, K, F, E) Q))) ∧ (x0 = 12 → ((x1 ≤ x3 → PW l G 0 mX4_joined bg 149 [(5, (1, 0))] [] (n, K, F, E) Q) ∧ (¬ (x1 ≤ x3) → PW l G 0 mX4_joined bg 149 [(5, (1, 1))] [] (n, K, F, E) Q))))) ∧ (x3 = 0 → Q (some (1, 2000000000)) (n, K, F, E)))) ∧ (¬ (x0 = 9) → ((¬ x0 = 10 → (((x0 < 6 ∨ 12 < x0) → ((¬ x1 = x3 → PW l G 0 mX4_joined bg 149 [(5, (1, 0))] [] (n, K, F, E) Q) ∧ (x1 = x3 → PW l G 0 mX4_joined bg 149 [(5, (1, 1))] [] (n, K, F, E) Q))) ∧ (x0 = 6 → (-9223372036854775808 ≤ x1 + x3 ∧ x1 + x3 < 9223372036854775808) ∧ PW l G 0 mX4_joined bg 149 [(5, (1, x1 + x3))] [] (n, K, F, E) Q) ∧ (x0 = 7 → (-9223372036854775808 ≤ x1 - x3 ∧ x1 - x3 < 9223372036854775808) ∧ PW l G 0 mX4_joined bg 149 [(5, (1, x1 - x3))] [] (n, K, F, E) Q) ∧ (x0 = 8 → PW l G 0 mX4_joined bg 149 [(5, (1, w64 (x1 * x3)))] [] (n, K, F, E) Q) ∧ (x0 = 9 → ¬ x3 = 0 ∧ PW l G 0 mX4_joined bg 149 [(5, (1, w64 (x1.tdiv x3)))] [] (n, K, F, E) Q) ∧ (x0 = 10 → ¬ x3 = 0 ∧ PW l G 0 mX4_joined bg 149 [(5, (1, x1.tmod x3))] [] (n, K, F, E) Q) ∧ (x0 = 11 → ((x3 ≤ x1 → PW l G 0 mX4_joined bg 149 [(5, (1, 0))] [] (n, K, F, E) Q) ∧ (¬ (x3 ≤ x1) → PW l G 0 mX4_joined bg 149 [(5, (1, 1))] [] (n, K, F, E) Q))) ∧ (x0 = 12 → ((x1 ≤ x3 → PW l G 0 mX4_joined bg 149 [(5, (1, 0))] [] (n, K, F, E) Q) ∧ (¬ (x1 ≤ x3) → PW l G 0 mX4_joined bg 149 [(5, (1, 1))] [] (n, K, F, E) Q))))) ∧ (x0 = 10 → ((¬ x3 = 0 → (((x0 < 6 ∨ 12 < x0) → ((¬ x1 = x3 → PW l G 0 mX4_joined bg 149 [(5, (1, 0))] [] (n, K, F, E) Q) ∧ (x1 = x3 → PW l G 0 mX4_joined bg 149 [(5, (1, 1))] [] (n, K, F, E) Q))) ∧ (x0 = 6 → (-9223372036854775808 ≤ x1 + x3 ∧ x1 + x3 < 9223372036854775808) ∧ PW l G 0 mX4_joined bg 149 [(5, (1, x1 + x3))] [] (n, K, F, E) Q) ∧ (x0 = 7 → (-9223372036854775808 ≤ x1 - x3 ∧ x1 - x3 < 9223372036854775808) ∧ PW l G 0 mX4_joined bg 149 [(5, (1, x1 - x3))] [] (n, K, F, E) Q) ∧ (x0 = 8 → PW l G 0 mX4_joined bg 149 [(5, (1, w64 (x1 * x3)))] [] (n, K, F, E) Q) ∧ (x0 = 9 → PW l G 0 mX4_joined bg 149 [(5, (1, w64 (x1.tdiv x3)))] [] (n, K, F, E) Q) ∧ (x0 = 10 → PW l G 0 mX4_joined bg 149 [(5, (1, x1.tmod x3))] [] (n, K, F, E) Q) ∧ (x0 = 11 → ((x3 ≤ x1 → PW l G 0 mX4_joined bg 149 [(5, (1, 0))] [] (n, K, F, E) Q) ∧ (¬ (x3 ≤ x1) → PW l G 0 mX4_joined bg 149 [(5, (1, 1))] [] (n, K, F, E) Q))) ∧ (x0 = 12 → ((x1 ≤ x3 → PW l G 0 mX4_joined bg 149 [(5, (1, 0))] [] (n, K, F, E) Q) ∧ (¬ (x1 ≤ x3) → PW l G 0 mX4_joined bg 149 [(5, (1, 1))] [] (n, K, F, E) Q))))) ∧ (x3 = 0 → Q (some (1, 2000000000)) (n, K, F, E)))))))) : PW l G 0 mX4_joined bg 0 [(0, (0, x0)), (1, (1, x1)), (3, (1, x3))] [] (n, K, F, E) Q := by
  refine s_iload_n (q := 1) 0 0 rfl rfl ?_
  refine s_bipush (q := 3) 1 rfl ?_
  refine s_icmp_eq (q := 6) (tgt := 12) 2 rfl rfl (fun hb => ?_) (fun hb => ?_)
  · skip
    have b1 := hb
    replace h := h.1 hb
    refine s_lload_n (q := 13) 6 2 rfl rfl ?_
    refine s_lconst (q := 14) (x := 0) 7 rfl ?_
    refine s_lcmp (q := 15) 8 rfl ?_
    refine s_if_ne (q := 18) (tgt := 22) 9 rfl rfl (fun hb => ?_) (fun hb => ?_)
    · have hb := mt lCmp_eq.mpr hb
      have b2 := hb
      replace h := h.1 hb
      refine s_iload_n (q := 23) 12 0 rfl rfl ?_
      obtain ⟨h0, h⟩ := h
      by_cases hsw : x0 < 6 ∨ 12 < x0
      · refine s_tableOut (tgt := 136) 13 rfl hsw rfl ?_
        replace h := h0 hsw
        refine s_lload_n (q := 137) 57 1 rfl rfl ?_
        refine s_lload_n (q := 138) 58 2 rfl rfl ?_
        refine s_lcmp (q := 139) 59 rfl ?_
        refine s_if_ne (q := 142) (tgt := 146) 60 rfl rfl (fun hb => ?_) (fun hb => ?_)
        · have hb := mt lCmp_eq.mpr hb
          have b3 := hb
          replace h := h.1 hb
          refine s_lconst (q := 147) (x := 0) 63 rfl ?_
          refine s_lstore (q := 149) (lv' := [(5, (1, 0)), (0, (0, x0)), (1, (1, x1)), (3, (1, x3))]) 64 rfl rfl ?_
          refine PW.pick [0] rfl ?_
          exact h
        · have hb := lCmp_eq.mp (Classical.not_not.mp hb)
          have b3 := hb
          replace h := h.2 hb
          refine s_lconst (q := 143) (x := 1) 61 rfl ?_
          refine s_goto (tgt := 147) 62 rfl rfl ?_
          refine s_lstore (q := 149) (lv' := [(5, (1, 1)), (0, (0, x0)), (1, (1, x1)), (3, (1, x3))]) 64 rfl rfl ?_
          refine PW.pick [0] rfl ?_
          exact h
      have gl : 6 ≤ x0 := by omega
      have gh : x0 ≤ 12 := by omega
      clear hsw
      obtain ⟨h0, h⟩ := h
      by_cases hs0 : x0 = 6
      · refine s_tableIn (tgt := 64) (off := 41) 13 rfl ⟨by rw [hs0]; decide, by rw [hs0]; decide⟩ (by rw [hs0]; rfl) rfl ?_
        replace h := h0 hs0
        refine s_lload_n (q := 65) 14 1 rfl rfl ?_
        refine s_lload_n (q := 66) 15 2 rfl rfl ?_
        obtain ⟨c4, h⟩ := h
        refine n_ladd (q := 67) 16 rfl c4 ?_
        refine s_lstore (q := 69) (lv' := [(5, (1, x1 + x3)), (0, (0, x0)), (1, (1, x1)), (3, (1, x3))]) 17 rfl rfl ?_
        refine s_goto (tgt := 149) 18 rfl rfl ?_
        refine PW.pick [0] rfl ?_
        exact h
      clear h0
      replace gl : 7 ≤ x0 := by clear h; omega
      clear hs0
      obtain ⟨h0, h⟩ := h
      by_cases hs0 : x0 = 7
      · refine s_tableIn (tgt := 72) (off := 49) 13 rfl ⟨by rw [hs0]; decide, by rw [hs0]; decide⟩ (by rw [hs0]; rfl) rfl ?_
        replace h := h0 hs0
        refine s_lload_n (q := 73) 19 1 rfl rfl ?_
        refine s_lload_n (q := 74) 20 2 rfl rfl ?_
        obtain ⟨c5, h⟩ := h
        refine n_lsub (q := 75) 21 rfl c5 ?_
        refine s_lstore (q := 77) (lv' := [(5, (1, x1 - x3)), (0, (0, x0)), (1, (1, x1)), (3, (1, x3))]) 22 rfl rfl ?_
        refine s_goto (tgt := 149) 23 rfl rfl ?_
        refine PW.pick [0] rfl ?_
        exact h
      clear h0
      replace gl : 8 ≤ x0 := by clear h; omega
      clear hs0
      obtain ⟨h0, h⟩ := h
      by_cases hs0 : x0 = 8
      · refine s_tableIn (tgt := 80) (off := 57) 13 rfl ⟨by rw [hs0]; decide, by rw [hs0]; decide⟩ (by rw [hs0]; rfl) rfl ?_
        replace h := h0 hs0
        refine s_lload_n (q := 81) 24 1 rfl rfl ?_
        refine s_lload_n (q := 82) 25 2 rfl rfl ?_
        refine s_lmul (q := 83) 26 rfl ?_
        refine s_lstore (q := 85) (lv' := [(5, (1, w64 (x1 * x3))), (0, (0, x0)), (1, (1, x1)), (3, (1, x3))]) 27 rfl rfl ?_
        refine s_goto (tgt := 149) 28 rfl rfl ?_
        refine PW.pick [0] rfl ?_
        exact h
      clear h0
      replace gl : 9 ≤ x0 := by clear h; omega
      clear hs0
      obtain ⟨h0, h⟩ := h
      by_cases hs0 : x0 = 9
      · refine s_tableIn (tgt := 88) (off := 65) 13 rfl ⟨by rw [hs0]; decide, by rw [hs0]; decide⟩ (by rw [hs0]; rfl) rfl ?_
        replace h := h0 hs0
        refine s_lload_n (q := 89) 29 1 rfl rfl ?_
        refine s_lload_n (q := 90) 30 2 rfl rfl ?_
        refine s_ldiv (q := 91) 31 rfl b2 ?_
        refine s_lstore (q := 93) (lv' := [(5, (1, w64 (x1.tdiv x3))), (0, (0, x0)), (1, (1, x1)), (3, (1, x3))]) 32 rfl rfl ?_
        refine s_goto (tgt := 149) 33 rfl rfl ?_
        refine PW.pick [0] rfl ?_
        exact h
      clear h0
      replace gl : 10 ≤ x0 := by clear h; omega
      clear hs0
      obtain ⟨h0, h⟩ := h
      by_cases hs0 : x0 = 10
      · refine s_tableIn (tgt := 96) (off := 73) 13 rfl ⟨by rw [hs0]; decide, by rw [hs0]; decide⟩ (by rw [hs0]; rfl) rfl ?_
        replace h := h0 hs0
        refine s_lload_n (q := 97) 34 1 rfl rfl ?_
        refine s_lload_n (q := 98) 35 2 rfl rfl ?_
        refine s_lrem (q := 99) 36 rfl b2 ?_
        refine s_lstore (q := 101) (lv' := [(5, (1, x1.tmod x3)), (0, (0, x0)), (1, (1, x1)), (3, (1, x3))]) 37 rfl rfl ?_
        refine s_goto (tgt := 149) 38 rfl rfl ?_
        refine PW.pick [0] rfl ?_
        exact h
      clear h0
      replace gl : 11 ≤ x0 := by clear h; omega
      clear hs0
      obtain ⟨h0, h⟩ := h
      by_cases hs0 : x0 = 11
      · refine s_tableIn (tgt := 104) (off := 81) 13 rfl ⟨by rw [hs0]; decide, by rw [hs0]; decide⟩ (by rw [hs0]; rfl) rfl ?_
        replace h := h0 hs0
        refine s_lload_n (q := 105) 39 1 rfl rfl ?_
        refine s_lload_n (q := 106) 40 2 rfl rfl ?_
        refine s_lcmp (q := 107) 41 rfl ?_
        refine s_if_ge (q := 110) (tgt := 114) 42 rfl rfl (fun hb => ?_) (fun hb => ?_)
        · have hb := lCmp_ge.mp hb
          have b6 := hb
          replace h := h.1 hb
          refine s_lconst (q := 115) (x := 0) 45 rfl ?_
          refine s_lstore (q := 117) (lv' := [(5, (1, 0)), (0, (0, x0)), (1, (1, x1)), (3, (1, x3))]) 46 rfl rfl ?_
          refine s_goto (tgt := 149) 47 rfl rfl ?_
          refine PW.pick [0] rfl ?_
          exact h
        · have hb := mt lCmp_ge.mpr hb
          have b6 := hb
          replace h := h.2 hb
          refine s_lconst (q := 111) (x := 1) 43 rfl ?_
          refine s_goto (tgt := 115) 44 rfl rfl ?_
          refine s_lstore (q := 117) (lv' := [(5, (1, 1)), (0, (0, x0)), (1, (1, x1)), (3, (1, x3))]) 46 rfl rfl ?_
          refine s_goto (tgt := 149) 47 rfl rfl ?_
          refine PW.pick [0] rfl ?_
          exact h
      clear h0
      replace gl : 12 ≤ x0 := by clear h; omega
      clear hs0
      have h0 := h
      by_cases hs0 : x0 = 12
      · refine s_tableIn (tgt := 120) (off := 97) 13 rfl ⟨by rw [hs0]; decide, by rw [hs0]; decide⟩ (by rw [hs0]; rfl) rfl ?_
        replace h := h0 hs0
        refine s_lload_n (q := 121) 48 1 rfl rfl ?_
        refine s_lload_n (q := 122) 49 2 rfl rfl ?_
        refine s_lcmp (q := 123) 50 rfl ?_
        refine s_if_le (q := 126) (tgt := 130) 51 rfl rfl (fun hb => ?_) (fun hb => ?_)
        · have hb := lCmp_le.mp hb
          have b7 := hb
          replace h := h.1 hb
          refine s_lconst (q := 131) (x := 0) 54 rfl ?_
          refine s_lstore (q := 133) (lv' := [(5, (1, 0)), (0, (0, x0)), (1, (1, x1)), (3, (1, x3))]) 55 rfl rfl ?_
          refine s_goto (tgt := 149) 56 rfl rfl ?_
          refine PW.pick [0] rfl ?_
          exact h
        · have hb := mt lCmp_le.mpr hb
          have b7 := hb
          replace h := h.2 hb
          refine s_lconst (q := 127) (x := 1) 52 rfl ?_
          refine s_goto (tgt := 131) 53 rfl rfl ?_
          refine s_lstore (q := 133) (lv' := [(5, (1, 1)), (0, (0, x0)), (1, (1, x1)), (3, (1, x3))]) 55 rfl rfl ?_
          refine s_goto (tgt := 149) 56 rfl rfl ?_
          refine PW.pick [0] rfl ?_
          exact h
      clear h0
      replace gl : 13 ≤ x0 := by clear h; omega
      clear hs0
      clear h
      exfalso
      omega
    · have hb := lCmp_eq.mp (Classical.not_not.mp hb)
      have b2 := hb
      replace h := h.2 hb
      refine s_ldc2 (q := 21) (x := 2000000000) 10 rfl kX4_29 ?_
      exact s_lret 11 rfl rfl h
  · skip
    have b1 := hb
    replace h := h.2 hb
    refine s_iload_n (q := 7) 3 0 rfl rfl ?_
    refine s_bipush (q := 9) 4 rfl ?_
    refine s_icmp_ne (q := 12) (tgt := 22) 5 rfl rfl (fun hb => ?_) (fun hb => ?_)
    · skip
      have b8 := hb
      replace h := h.1 hb
      refine s_iload_n (q := 23) 12 0 rfl rfl ?_
      obtain ⟨h0, h⟩ := h
      by_cases hsw : x0 < 6 ∨ 12 < x0
      · refine s_tableOut (tgt := 136) 13 rfl hsw rfl ?_
        replace h := h0 hsw
        refine s_lload_n (q := 137) 57 1 rfl rfl ?_
        refine s_lload_n (q := 138) 58 2 rfl rfl ?_
        refine s_lcmp (q := 139) 59 rfl ?_
        refine s_if_ne (q := 142) (tgt := 146) 60 rfl rfl (fun hb => ?_) (fun hb => ?_)
        · have hb := mt lCmp_eq.mpr hb
          have b9 := hb
          replace h := h.1 hb
          refine s_lconst (q := 147) (x := 0) 63 rfl ?_
          refine s_lstore (q := 149) (lv' := [(5, (1, 0)), (0, (0, x0)), (1, (1, x1)), (3, (1, x3))]) 64 rfl rfl ?_
          refine PW.pick [0] rfl ?_
          exact h
        · have hb := lCmp_eq.mp (Classical.not_not.mp hb)
          have b9 := hb
          replace h := h.2 hb
          refine s_lconst (q := 143) (x := 1) 61 rfl ?_
          refine s_goto (tgt := 147) 62 rfl rfl ?_
          refine s_lstore (q := 149) (lv' := [(5, (1, 1)), (0, (0, x0)), (1, (1, x1)), (3, (1, x3))]) 64 rfl rfl ?_
          refine PW.pick [0] rfl ?_
          exact h
      have gl : 6 ≤ x0 := by omega
      have gh : x0 ≤ 12 := by omega
      clear hsw
      obtain ⟨h0, h⟩ := h
      by_cases hs0 : x0 = 6
      · refine s_tableIn (tgt := 64) (off := 41) 13 rfl ⟨by rw [hs0]; decide, by rw [hs0]; decide⟩ (by rw [hs0]; rfl) rfl ?_
        replace h := h0 hs0
        refine s_lload_n (q := 65) 14 1 rfl rfl ?_
        refine s_lload_n (q := 66) 15 2 rfl rfl ?_
        obtain ⟨c10, h⟩ := h
        refine n_ladd (q := 67) 16 rfl c10 ?_
        refine s_lstore (q := 69) (lv' := [(5, (1, x1 + x3)), (0, (0, x0)), (1, (1, x1)), (3, (1, x3))]) 17 rfl rfl ?_
        refine s_goto (tgt := 149) 18 rfl rfl ?_
        refine PW.pick [0] rfl ?_
        exact h
      clear h0
      replace gl : 7 ≤ x0 := by clear h; omega
      clear hs0
      obtain ⟨h0, h⟩ := h
      by_cases hs0 : x0 = 7
      · refine s_tableIn (tgt := 72) (off := 49) 13 rfl ⟨by rw [hs0]; decide, by rw [hs0]; decide⟩ (by rw [hs0]; rfl) rfl ?_
        replace h := h0 hs0
        refine s_lload_n (q := 73) 19 1 rfl rfl ?_
        refine s_lload_n (q := 74) 20 2 rfl rfl ?_
        obtain ⟨c11, h⟩ := h
        refine n_lsub (q := 75) 21 rfl c11 ?_
        refine s_lstore (q := 77) (lv' := [(5, (1, x1 - x3)), (0, (0, x0)), (1, (1, x1)), (3, (1, x3))]) 22 rfl rfl ?_
        refine s_goto (tgt := 149) 23 rfl rfl ?_
        refine PW.pick [0] rfl ?_
        exact h
      clear h0
      replace gl : 8 ≤ x0 := by clear h; omega
      clear hs0
      obtain ⟨h0, h⟩ := h
      by_cases hs0 : x0 = 8
      · refine s_tableIn (tgt := 80) (off := 57) 13 rfl ⟨by rw [hs0]; decide, by rw [hs0]; decide⟩ (by rw [hs0]; rfl) rfl ?_
        replace h := h0 hs0
        refine s_lload_n (q := 81) 24 1 rfl rfl ?_
        refine s_lload_n (q := 82) 25 2 rfl rfl ?_
        refine s_lmul (q := 83) 26 rfl ?_
        refine s_lstore (q := 85) (lv' := [(5, (1, w64 (x1 * x3))), (0, (0, x0)), (1, (1, x1)), (3, (1, x3))]) 27 rfl rfl ?_
        refine s_goto (tgt := 149) 28 rfl rfl ?_
        refine PW.pick [0] rfl ?_
        exact h
      clear h0
      replace gl : 9 ≤ x0 := by clear h; omega
      clear hs0
      obtain ⟨h0, h⟩ := h
      by_cases hs0 : x0 = 9
      · refine s_tableIn (tgt := 88) (off := 65) 13 rfl ⟨by rw [hs0]; decide, by rw [hs0]; decide⟩ (by rw [hs0]; rfl) rfl ?_
        replace h := h0 hs0
        refine s_lload_n (q := 89) 29 1 rfl rfl ?_
        refine s_lload_n (q := 90) 30 2 rfl rfl ?_
        obtain ⟨c12, h⟩ := h
        refine s_ldiv (q := 91) 31 rfl c12 ?_
        refine s_lstore (q := 93) (lv' := [(5, (1, w64 (x1.tdiv x3))), (0, (0, x0)), (1, (1, x1)), (3, (1, x3))]) 32 rfl rfl ?_
        refine s_goto (tgt := 149) 33 rfl rfl ?_
        refine PW.pick [0] rfl ?_
        exact h
      clear h0
      replace gl : 10 ≤ x0 := by clear h; omega
      clear hs0
      obtain ⟨h0, h⟩ := h
      by_cases hs0 : x0 = 10
      · refine s_tableIn (tgt := 96) (off := 73) 13 rfl ⟨by rw [hs0]; decide, by rw [hs0]; decide⟩ (by rw [hs0]; rfl) rfl ?_
        replace h := h0 hs0
        refine s_lload_n (q := 97) 34 1 rfl rfl ?_
        refine s_lload_n (q := 98) 35 2 rfl rfl ?_
        obtain ⟨c13, h⟩ := h
        refine s_lrem (q := 99) 36 rfl c13 ?_
        refine s_lstore (q := 101) (lv' := [(5, (1, x1.tmod x3)), (0, (0, x0)), (1, (1, x1)), (3, (1, x3))]) 37 rfl rfl ?_
        refine s_goto (tgt := 149) 38 rfl rfl ?_
        refine PW.pick [0] rfl ?_
        exact h
      clear h0
      replace gl : 11 ≤ x0 := by clear h; omega
      clear hs0
      obtain ⟨h0, h⟩ := h
      by_cases hs0 : x0 = 11
      · refine s_tableIn (tgt := 104) (off := 81) 13 rfl ⟨by rw [hs0]; decide, by rw [hs0]; decide⟩ (by rw [hs0]; rfl) rfl ?_
        replace h := h0 hs0
        refine s_lload_n (q := 105) 39 1 rfl rfl ?_
        refine s_lload_n (q := 106) 40 2 rfl rfl ?_
        refine s_lcmp (q := 107) 41 rfl ?_
        refine s_if_ge (q := 110) (tgt := 114) 42 rfl rfl (fun hb => ?_) (fun hb => ?_)
        · have hb := lCmp_ge.mp hb
          have b14 := hb
          replace h := h.1 hb
          refine s_lconst (q := 115) (x := 0) 45 rfl ?_
          refine s_lstore (q := 117) (lv' := [(5, (1, 0)), (0, (0, x0)), (1, (1, x1)), (3, (1, x3))]) 46 rfl rfl ?_
          refine s_goto (tgt := 149) 47 rfl rfl ?_
          refine PW.pick [0] rfl ?_
          exact h
        · have hb := mt lCmp_ge.mpr hb
          have b14 := hb
          replace h := h.2 hb
          refine s_lconst (q := 111) (x := 1) 43 rfl ?_
          refine s_goto (tgt := 115) 44 rfl rfl ?_
          refine s_lstore (q := 117) (lv' := [(5, (1, 1)), (0, (0, x0)), (1, (1, x1)), (3, (1, x3))]) 46 rfl rfl ?_
          refine s_goto (tgt := 149) 47 rfl rfl ?_
          refine PW.pick [0] rfl ?_
          exact h
      clear h0
      replace gl : 12 ≤ x0 := by clear h; omega
      clear hs0
      have h0 := h
      by_cases hs0 : x0 = 12
      · refine s_tableIn (tgt := 120) (off := 97) 13 rfl ⟨by rw [hs0]; decide, by rw [hs0]; decide⟩ (by rw [hs0]; rfl) rfl ?_
        replace h := h0 hs0
        refine s_lload_n (q := 121) 48 1 rfl rfl ?_
        refine s_lload_n (q := 122) 49 2 rfl rfl ?_
        refine s_lcmp (q := 123) 50 rfl ?_
        refine s_if_le (q := 126) (tgt := 130) 51 rfl rfl (fun hb => ?_) (fun hb => ?_)
        · have hb := lCmp_le.mp hb
          have b15 := hb
          replace h := h.1 hb
          refine s_lconst (q := 131) (x := 0) 54 rfl ?_
          refine s_lstore (q := 133) (lv' := [(5, (1, 0)), (0, (0, x0)), (1, (1, x1)), (3, (1, x3))]) 55 rfl rfl ?_
          refine s_goto (tgt := 149) 56 rfl rfl ?_
          refine PW.pick [0] rfl ?_
          exact h
        · have hb := mt lCmp_le.mpr hb
          have b15 := hb
          replace h := h.2 hb
          refine s_lconst (q := 127) (x := 1) 52 rfl ?_
          refine s_goto (tgt := 131) 53 rfl rfl ?_
          refine s_lstore (q := 133) (lv' := [(5, (1, 1)), (0, (0, x0)), (1, (1, x1)), (3, (1, x3))]) 55 rfl rfl ?_
          refine s_goto (tgt := 149) 56 rfl rfl ?_
          refine PW.pick [0] rfl ?_
          exact h
      clear h0
      replace gl : 13 ≤ x0 := by clear h; omega
      clear hs0
      clear h
      exfalso
      omega
    · have hb := Classical.not_not.mp hb
      have b8 := hb
      replace h := h.2 hb
      refine s_lload_n (q := 13) 6 2 rfl rfl ?_
      refine s_lconst (q := 14) (x := 0) 7 rfl ?_
      refine s_lcmp (q := 15) 8 rfl ?_
      refine s_if_ne (q := 18) (tgt := 22) 9 rfl rfl (fun hb => ?_) (fun hb => ?_)
      · have hb := mt lCmp_eq.mpr hb
        have b16 := hb
        replace h := h.1 hb
        refine s_iload_n (q := 23) 12 0 rfl rfl ?_
        obtain ⟨h0, h⟩ := h
        by_cases hsw : x0 < 6 ∨ 12 < x0
        · refine s_tableOut (tgt := 136) 13 rfl hsw rfl ?_
          replace h := h0 hsw
          refine s_lload_n (q := 137) 57 1 rfl rfl ?_
          refine s_lload_n (q := 138) 58 2 rfl rfl ?_
          refine s_lcmp (q := 139) 59 rfl ?_
          refine s_if_ne (q := 142) (tgt := 146) 60 rfl rfl (fun hb => ?_) (fun hb => ?_)
          · have hb := mt lCmp_eq.mpr hb
            have b17 := hb
            replace h := h.1 hb
            refine s_lconst (q := 147) (x := 0) 63 rfl ?_
            refine s_lstore (q := 149) (lv' := [(5, (1, 0)), (0, (0, x0)), (1, (1, x1)), (3, (1, x3))]) 64 rfl rfl ?_
            refine PW.pick [0] rfl ?_
            exact h
          · have hb := lCmp_eq.mp (Classical.not_not.mp hb)
            have b17 := hb
            replace h := h.2 hb
            refine s_lconst (q := 143) (x := 1) 61 rfl ?_
            refine s_goto (tgt := 147) 62 rfl rfl ?_
            refine s_lstore (q := 149) (lv' := [(5, (1, 1)), (0, (0, x0)), (1, (1, x1)), (3, (1, x3))]) 64 rfl rfl ?_
            refine PW.pick [0] rfl ?_
            exact h
        have gl : 6 ≤ x0 := by omega
        have gh : x0 ≤ 12 := by omega
        clear hsw
        obtain ⟨h0, h⟩ := h
        by_cases hs0 : x0 = 6
        · refine s_tableIn (tgt := 64) (off := 41) 13 rfl ⟨by rw [hs0]; decide, by rw [hs0]; decide⟩ (by rw [hs0]; rfl) rfl ?_
          replace h := h0 hs0
          refine s_lload_n (q := 65) 14 1 rfl rfl ?_
          refine s_lload_n (q := 66) 15 2 rfl rfl ?_
          obtain ⟨c18, h⟩ := h
          refine n_ladd (q := 67) 16 rfl c18 ?_
          refine s_lstore (q := 69) (lv' := [(5, (1, x1 + x3)), (0, (0, x0)), (1, (1, x1)), (3, (1, x3))]) 17 rfl rfl ?_
          refine s_goto (tgt := 149) 18 rfl rfl ?_
          refine PW.pick [0] rfl ?_
          exact h
        clear h0
        replace gl : 7 ≤ x0 := by clear h; omega
        clear hs0
        obtain ⟨h0, h⟩ := h
        by_cases hs0 : x0 = 7
        · refine s_tableIn (tgt := 72) (off := 49) 13 rfl ⟨by rw [hs0]; decide, by rw [hs0]; decide⟩ (by rw [hs0]; rfl) rfl ?_
          replace h := h0 hs0
          refine s_lload_n (q := 73) 19 1 rfl rfl ?_
          refine s_lload_n (q := 74) 20 2 rfl rfl ?_
          obtain ⟨c19, h⟩ := h
          refine n_lsub (q := 75) 21 rfl c19 ?_
          refine s_lstore (q := 77) (lv' := [(5, (1, x1 - x3)), (0, (0, x0)), (1, (1, x1)), (3, (1, x3))]) 22 rfl rfl ?_
          refine s_goto (tgt := 149) 23 rfl rfl ?_
          refine PW.pick [0] rfl ?_
          exact h
        clear h0
        replace gl : 8 ≤ x0 := by clear h; omega
        clear hs0
        obtain ⟨h0, h⟩ := h
        by_cases hs0 : x0 = 8
        · refine s_tableIn (tgt := 80) (off := 57) 13 rfl ⟨by rw [hs0]; decide, by rw [hs0]; decide⟩ (by rw [hs0]; rfl) rfl ?_
          replace h := h0 hs0
          refine s_lload_n (q := 81) 24 1 rfl rfl ?_
          refine s_lload_n (q := 82) 25 2 rfl rfl ?_
          refine s_lmul (q := 83) 26 rfl ?_
          refine s_lstore (q := 85) (lv' := [(5, (1, w64 (x1 * x3))), (0, (0, x0)), (1, (1, x1)), (3, (1, x3))]) 27 rfl rfl ?_
          refine s_goto (tgt := 149) 28 rfl rfl ?_
          refine PW.pick [0] rfl ?_
          exact h
        clear h0
        replace gl : 9 ≤ x0 := by clear h; omega
        clear hs0
        obtain ⟨h0, h⟩ := h
        by_cases hs0 : x0 = 9
        · refine s_tableIn (tgt := 88) (off := 65) 13 rfl ⟨by rw [hs0]; decide, by rw [hs0]; decide⟩ (by rw [hs0]; rfl) rfl ?_
          replace h := h0 hs0
          refine s_lload_n (q := 89) 29 1 rfl rfl ?_
          refine s_lload_n (q := 90) 30 2 rfl rfl ?_
          refine s_ldiv (q := 91) 31 rfl b16 ?_
          refine s_lstore (q := 93) (lv' := [(5, (1, w64 (x1.tdiv x3))), (0, (0, x0)), (1, (1, x1)), (3, (1, x3))]) 32 rfl rfl ?_
          refine s_goto (tgt := 149) 33 rfl rfl ?_
          refine PW.pick [0] rfl ?_
          exact h
        clear h0
        replace gl : 10 ≤ x0 := by clear h; omega
        clear hs0
        obtain ⟨h0, h⟩ := h
        by_cases hs0 : x0 = 10
        · refine s_tableIn (tgt := 96) (off := 73) 13 rfl ⟨by rw [hs0]; decide, by rw [hs0]; decide⟩ (by rw [hs0]; rfl) rfl ?_
          replace h := h0 hs0
          refine s_lload_n (q := 97) 34 1 rfl rfl ?_
          refine s_lload_n (q := 98) 35 2 rfl rfl ?_
          refine s_lrem (q := 99) 36 rfl b16 ?_
          refine s_lstore (q := 101) (lv' := [(5, (1, x1.tmod x3)), (0, (0, x0)), (1, (1, x1)), (3, (1, x3))]) 37 rfl rfl ?_
          refine s_goto (tgt := 149) 38 rfl rfl ?_
          refine PW.pick [0] rfl ?_
          exact h
        clear h0
        replace gl : 11 ≤ x0 := by clear h; omega
        clear hs0
        obtain ⟨h0, h⟩ := h
        by_cases hs0 : x0 = 11
        · refine s_tableIn (tgt := 104) (off := 81) 13 rfl ⟨by rw [hs0]; decide, by rw [hs0]; decide⟩ (by rw [hs0]; rfl) rfl ?_
          replace h := h0 hs0
          refine s_lload_n (q := 105) 39 1 rfl rfl ?_
          refine s_lload_n (q := 106) 40 2 rfl rfl ?_
          refine s_lcmp (q := 107) 41 rfl ?_
          refine s_if_ge (q := 110) (tgt := 114) 42 rfl rfl (fun hb => ?_) (fun hb => ?_)
          · have hb := lCmp_ge.mp hb
            have b20 := hb
            replace h := h.1 hb
            refine s_lconst (q := 115) (x := 0) 45 rfl ?_
            refine s_lstore (q := 117) (lv' := [(5, (1, 0)), (0, (0, x0)), (1, (1, x1)), (3, (1, x3))]) 46 rfl rfl ?_
            refine s_goto (tgt := 149) 47 rfl rfl ?_
            refine PW.pick [0] rfl ?_
            exact h
          · have hb := mt lCmp_ge.mpr hb
            have b20 := hb
            replace h := h.2 hb
            refine s_lconst (q := 111) (x := 1) 43 rfl ?_
            refine s_goto (tgt := 115) 44 rfl rfl ?_
            refine s_lstore (q := 117) (lv' := [(5, (1, 1)), (0, (0, x0)), (1, (1, x1)), (3, (1, x3))]) 46 rfl rfl ?_
            refine s_goto (tgt := 149) 47 rfl rfl ?_
            refine PW.pick [0] rfl ?_
            exact h
        clear h0
        replace gl : 12 ≤ x0 := by clear h; omega
        clear hs0
        have h0 := h
        by_cases hs0 : x0 = 12
        · refine s_tableIn (tgt := 120) (off := 97) 13 rfl ⟨by rw [hs0]; decide, by rw [hs0]; decide⟩ (by rw [hs0]; rfl) rfl ?_
          replace h := h0 hs0
          refine s_lload_n (q := 121) 48 1 rfl rfl ?_
          refine s_lload_n (q := 122) 49 2 rfl rfl ?_
          refine s_lcmp (q := 123) 50 rfl ?_
          refine s_if_le (q := 126) (tgt := 130) 51 rfl rfl (fun hb => ?_) (fun hb => ?_)
          · have hb := lCmp_le.mp hb
            have b21 := hb
            replace h := h.1 hb
            refine s_lconst (q := 131) (x := 0) 54 rfl ?_
            refine s_lstore (q := 133) (lv' := [(5, (1, 0)), (0, (0, x0)), (1, (1, x1)), (3, (1, x3))]) 55 rfl rfl ?_
            refine s_goto (tgt := 149) 56 rfl rfl ?_
            refine PW.pick [0] rfl ?_
            exact h
          · have hb := mt lCmp_le.mpr hb
            have b21 := hb
            replace h := h.2 hb
            refine s_lconst (q := 127) (x := 1) 52 rfl ?_
            refine s_goto (tgt := 131) 53 rfl rfl ?_
            refine s_lstore (q := 133) (lv' := [(5, (1, 1)), (0, (0, x0)), (1, (1, x1)), (3, (1, x3))]) 55 rfl rfl ?_
            refine s_goto (tgt := 149) 56 rfl rfl ?_
            refine PW.pick [0] rfl ?_
            exact h
        clear h0
        replace gl : 13 ≤ x0 := by clear h; omega
        clear hs0
        clear h
        exfalso
        omega
      · have hb := lCmp_eq.mp (Classical.not_not.mp hb)
        have b16 := hb
        replace h := h.2 hb
        refine s_ldc2 (q := 21) (x := 2000000000) 10 rfl kX4_29 ?_
        exact s_lret 11 rfl rfl h
theorem vX4_joined_149 {l : Launch} {G : pG} {bg : Nat × Nat} {n : Nat} {K : Int → Nat × Nat} {F E : Int → Int → Int} {Q : Option pV → pM → Prop} (x5 : Int) (h : ((1000000000 < x5 → Q (some (1, 2000000000)) (n, K, F, E)) ∧ (¬ (1000000000 < x5) → (((-1000000000) ≤ x5 → Q (some (1, x5)) (n, K, F, E)) ∧ (¬ ((-1000000000) ≤ x5) → Q (some (1, 2000000000)) (n, K, F, E)))))) : PW l G 0 mX4_joined bg 149 [(5, (1, x5))] [] (n, K, F, E) Q := by
  refine s_lload (q := 151) 65 0 rfl rfl ?_
  refine s_ldc2 (q := 154) (x := 1000000000) 66 rfl kX4_40 ?_
  refine s_lcmp (q := 155) 67 rfl ?_
  refine s_if_gt (q := 158) (tgt := 167) 68 rfl rfl (fun hb => ?_) (fun hb => ?_)
  · have hb := lCmp_gt.mp hb
    have b1 := hb
    replace h := h.1 hb
    refine s_ldc2 (q := 170) (x := 2000000000) 73 rfl kX4_29 ?_
    refine s_goto (tgt := 175) 74 rfl rfl ?_
    exact s_lret 76 rfl rfl h
  · have hb := mt lCmp_gt.mpr hb
    have b1 := hb
    replace h := h.2 hb
    refine s_lload (q := 160) 69 0 rfl rfl ?_
    refine s_ldc2 (q := 163) (x := (-1000000000)) 70 rfl kX4_42 ?_
    refine s_lcmp (q := 164) 71 rfl ?_
    refine s_if_ge (q := 167) (tgt := 173) 72 rfl rfl (fun hb => ?_) (fun hb => ?_)
    · have hb := lCmp_ge.mp hb
      have b2 := hb
      replace h := h.1 hb
      refine s_lload (q := 175) 75 0 rfl rfl ?_
      exact s_lret 76 rfl rfl h
    · have hb := mt lCmp_ge.mpr hb
      have b2 := hb
      replace h := h.2 hb
      refine s_ldc2 (q := 170) (x := 2000000000) 73 rfl kX4_29 ?_
      refine s_goto (tgt := 175) 74 rfl rfl ?_
      exact s_lret 76 rfl rfl h
theorem vX5_read_0 {l : Launch} {G : pG} {bg : Nat × Nat} {n : Nat} {K : Int → Nat × Nat} {F E : Int → Int → Int} {Q : Option pV → pM → Prop} (x0 x1 : Int) (h : (K x0).1 = 5 ∧ (x1 = 0 ∨ x1 = 1) ∧ (∀ F1, F1 = pUp F x0 2 x1 → (∀ F2, F2 = pUp F1 x0 3 0 → (∀ F3, F3 = pUp F2 x0 4 0 → (K (F x0 1)).1 = 9 ∧ (∀ F4, F4 = pUp F3 (F x0 1) 2 0 → (∀ F5, F5 = pUp F4 (F x0 1) 3 0 → (K (F x0 0)).1 = 10 ∧ PC l G 8 mX10_readAll (0, 0) [(2, F x0 0)] (n, K, F5, E) (fun r μ => PW l G 82 mX5_read bg 38 [(0, (2, x0))] (r.toList ++ []) μ Q))))))) : PW l G 82 mX5_read bg 0 [(0, (2, x0)), (1, (0, x1))] [] (n, K, F, E) Q := by
  refine s_aload_n (q := 1) 0 0 rfl rfl ?_
  refine s_iload_n (q := 2) 1 1 rfl rfl ?_
  obtain ⟨c1, h⟩ := h
  obtain ⟨c2, h⟩ := h
  refine n_putf (q := 5) (jj := 2) 2 5 2 rfl kX5_25 c1 (Or.inr (Or.inr (Or.inl ⟨rfl, c2⟩))) ?_
  refine PW.nameF (fun F1 eF1 => ?_)
  replace h := h F1 eF1
  refine s_aload_n (q := 6) 3 0 rfl rfl ?_
  refine s_iconst (q := 7) 4 rfl ?_
  refine n_putf (q := 10) (jj := 3) 5 5 3 rfl kX5_29 c1 (Or.inl rfl) ?_
  refine PW.nameF (fun F2 eF2 => ?_)
  replace h := h F2 eF2
  refine s_aload_n (q := 11) 6 0 rfl rfl ?_
  refine s_iconst (q := 12) 7 rfl ?_
  refine n_putf (q := 15) (jj := 4) 8 5 4 rfl kX5_33 c1 (Or.inl rfl) ?_
  refine PW.nameF (fun F3 eF3 => ?_)
  replace h := h F3 eF3
  refine s_aload_n (q := 16) 9 0 rfl rfl ?_
  refine n_getf (q := 19) (jj := 1) 10 5 1 rfl kX5_21 c1 ?_
  refine PW.top (b := F x0 1) (by refine (congrFun (congrFun eF3 _) _).trans ((pUp_k (by decide)).trans ?_); refine (congrFun (congrFun eF2 _) _).trans ((pUp_k (by decide)).trans ?_); exact (congrFun (congrFun eF1 _) _).trans (pUp_k (by decide))) ?_
  refine s_iconst (q := 20) 11 rfl ?_
  obtain ⟨c3, h⟩ := h
  refine n_putf (q := 23) (jj := 2) 12 9 2 rfl kX5_36 c3 (Or.inl rfl) ?_
  refine PW.nameF (fun F4 eF4 => ?_)
  replace h := h F4 eF4
  refine s_aload_n (q := 24) 13 0 rfl rfl ?_
  refine n_getf (q := 27) (jj := 1) 14 5 1 rfl kX5_21 c1 ?_
  refine PW.top (b := F x0 1) (by refine (congrFun (congrFun eF4 _) _).trans ((pUp_K c3 c1 (by decide)).trans ?_); refine (congrFun (congrFun eF3 _) _).trans ((pUp_k (by decide)).trans ?_); refine (congrFun (congrFun eF2 _) _).trans ((pUp_k (by decide)).trans ?_); exact (congrFun (congrFun eF1 _) _).trans (pUp_k (by decide))) ?_
  refine s_iconst (q := 28) 15 rfl ?_
  refine n_putf (q := 31) (jj := 3) 16 9 3 rfl kX5_39 c3 (Or.inl rfl) ?_
  refine PW.nameF (fun F5 eF5 => ?_)
  replace h := h F5 eF5
  refine s_aload_n (q := 32) 17 0 rfl rfl ?_
  refine n_getf (q := 35) (jj := 0) 18 5 0 rfl kX5_12 c1 ?_
  refine PW.top (b := F x0 0) (by refine (congrFun (congrFun eF5 _) _).trans ((pUp_K c3 c1 (by decide)).trans ?_); refine (congrFun (congrFun eF4 _) _).trans ((pUp_K c3 c1 (by decide)).trans ?_); refine (congrFun (congrFun eF3 _) _).trans ((pUp_k (by decide)).trans ?_); refine (congrFun (congrFun eF2 _) _).trans ((pUp_k (by decide)).trans ?_); exact (congrFun (congrFun eF1 _) _).trans (pUp_k (by decide))) ?_
  obtain ⟨c4, h⟩ := h
  refine PW.pick [0] rfl ?_
  exact n_callV (N := mX10_readAll) (as := []) (st := []) (q := 38) (d' := 8) 19 rfl uX10_readAll kX5_42 rfl c4 h
theorem vX5_read_38 {l : Launch} {G : pG} {bg : Nat × Nat} {n : Nat} {K : Int → Nat × Nat} {F E : Int → Int → Int} {Q : Option pV → pM → Prop} (x0 : Int) (h : PW l G 82 mX5_read bg 40 [(0, (2, x0)), (2, (0, 0))] [] (n, K, F, E) Q) : PW l G 82 mX5_read bg 38 [(0, (2, x0))] [] (n, K, F, E) Q := by
  refine s_iconst (q := 39) 20 rfl ?_
  refine s_istore_n (q := 40) (lv' := [(2, (0, 0)), (0, (2, x0))]) 21 rfl rfl ?_
  refine PW.pick [1, 0] rfl ?_
  exact h
theorem vX5_read_40 {l : Launch} {G : pG} {bg : Nat × Nat} {n : Nat} {K : Int → Nat × Nat} {F E : Int → Int → Int} {Q : Option pV → pM → Prop} (x0 x2 : Int) (h : ((12 ≤ x2 → (K x0).1 = 5 ∧ (K (F x0 0)).1 = 10 ∧ (K (F (F x0 0) 2)).1 = 20 ∧ ((0 : Int) ≤ F x0 4 ∧ F x0 4 < ((K (F (F x0 0) 2)).2 : Int)) ∧ Q (some (0, E (F (F x0 0) 2) (F x0 4))) (n, K, F, E)) ∧ (¬ (12 ≤ x2) → (K x0).1 = 5 ∧ PC l G 81 mX5_readClause (0, 0) [(2, x0)] (n, K, F, E) (fun r μ => PW l G 82 mX5_read bg 50 [(0, (2, x0)), (2, (0, x2))] (r.toList ++ []) μ Q)))) : PW l G 82 mX5_read bg 40 [(0, (2, x0)), (2, (0, x2))] [] (n, K, F, E) Q := by
  refine s_iload_n (q := 41) 22 1 rfl rfl ?_
  refine s_bipush (q := 43) 23 rfl ?_
  refine s_icmp_ge (q := 46) (tgt := 106) 24 rfl rfl (fun hb => ?_) (fun hb => ?_)
  · skip
    have b1 := hb
    replace h := h.1 hb
    refine s_aload_n (q := 107) 54 0 rfl rfl ?_
    obtain ⟨c2, h⟩ := h
    refine n_getf (q := 110) (jj := 0) 55 5 0 rfl kX5_12 c2 ?_
    obtain ⟨c3, h⟩ := h
    refine n_getf (q := 113) (jj := 2) 56 10 2 rfl kX5_49 c3 ?_
    refine s_aload_n (q := 114) 57 0 rfl rfl ?_
    refine n_getf (q := 117) (jj := 4) 58 5 4 rfl kX5_33 c2 ?_
    obtain ⟨c4, h⟩ := h
    obtain ⟨c5, h⟩ := h
    refine n_iald (q := 118) 59 rfl c4 c5 ?_
    exact s_iret 60 rfl rfl h
  · skip
    have b1 := hb
    replace h := h.2 hb
    refine s_aload_n (q := 47) 25 0 rfl rfl ?_
    obtain ⟨c6, h⟩ := h
    refine PW.pick [0, 1] rfl ?_
    exact n_callV (N := mX5_readClause) (as := []) (st := []) (q := 50) (d' := 81) 26 rfl uX5_readClause kX5_45 rfl c6 h
theorem vX5_read_50 {l : Launch} {G : pG} {bg : Nat × Nat} {n : Nat} {K : Int → Nat × Nat} {F E : Int → Int → Int} {Q : Option pV → pM → Prop} (x0 x2 s0 : Int) (h : ((¬ s0 = 0 → (K x0).1 = 5 ∧ (K (F x0 0)).1 = 10 ∧ (K (F (F x0 0) 1)).1 = 20 ∧ ((0 : Int) ≤ F x0 4 ∧ F x0 4 < ((K (F (F x0 0) 1)).2 : Int)) ∧ ((¬ (E (F (F x0 0) 1) (F x0 4) = 256) → PC l G 0 mX5_skip (0, 0) [(2, x0), (0, 59)] (n, K, F, E) (fun r μ => PW l G 82 mX5_read bg 84 [(0, (2, x0)), (2, (0, x2))] (r.toList ++ []) μ Q)) ∧ (E (F (F x0 0) 1) (F x0 4) = 256 → Q (some (0, (-1))) (n, K, F, E)))) ∧ (s0 = 0 → (K x0).1 = 5 ∧ (K (F x0 0)).1 = 10 ∧ (K (F (F x0 0) 2)).1 = 20 ∧ ((0 : Int) ≤ F x0 4 ∧ F x0 4 < ((K (F (F x0 0) 2)).2 : Int)) ∧ Q (some (0, E (F (F x0 0) 2) (F x0 4))) (n, K, F, E)))) : PW l G 82 mX5_read bg 50 [(0, (2, x0)), (2, (0, x2))] [(0, s0)] (n, K, F, E) Q := by
  refine s_if_ne (q := 53) (tgt := 66) 27 rfl rfl (fun hb => ?_) (fun hb => ?_)
  · skip
    have b1 := hb
    replace h := h.1 hb
    refine s_aload_n (q := 67) 35 0 rfl rfl ?_
    refine s_sipush (q := 70) 36 rfl ?_
    obtain ⟨c2, h⟩ := h
    obtain ⟨c3, h⟩ := h
    obtain ⟨c4, h⟩ := h
    obtain ⟨c5, h⟩ := h
    refine n_callV (N := mX5_is) (as := [(0, 256)]) (st := []) (q := 73) (d' := 0) 37 rfl uX5_is kX5_53 rfl c2 (pX5_is c2 c3 c4 c5 ?_)
    show PW l G 82 mX5_read bg 73 [(0, (2, x0)), (2, (0, x2))] [(0, bI (E (F (F x0 0) 1) (F x0 4) = 256))] (n, K, F, E) Q
    refine s_if_eq (q := 76) (tgt := 78) 38 rfl rfl (fun hb => ?_) (fun hb => ?_)
    · have hb := bI_f hb
      have b6 := hb
      replace h := h.1 hb
      refine s_aload_n (q := 79) 41 0 rfl rfl ?_
      refine s_bipush (q := 81) 42 rfl ?_
      refine PW.pick [0, 1] rfl ?_
      exact n_callV (N := mX5_skip) (as := [(0, 59)]) (st := []) (q := 84) (d' := 0) 43 rfl uX5_skip kX5_57 rfl c2 h
    · have hb := bI_t hb
      have b6 := hb
      replace h := h.2 hb
      refine s_iconst (q := 77) 39 rfl ?_
      exact s_iret 40 rfl rfl h
  · have hb := Classical.not_not.mp hb
    have b1 := hb
    replace h := h.2 hb
    refine s_aload_n (q := 54) 28 0 rfl rfl ?_
    obtain ⟨c7, h⟩ := h
    refine n_getf (q := 57) (jj := 0) 29 5 0 rfl kX5_12 c7 ?_
    obtain ⟨c8, h⟩ := h
    refine n_getf (q := 60) (jj := 2) 30 10 2 rfl kX5_49 c8 ?_
    refine s_aload_n (q := 61) 31 0 rfl rfl ?_
    refine n_getf (q := 64) (jj := 4) 32 5 4 rfl kX5_33 c7 ?_
    obtain ⟨c9, h⟩ := h
    obtain ⟨c10, h⟩ := h
    refine n_iald (q := 65) 33 rfl c9 c10 ?_
    exact s_iret 34 rfl rfl h
theorem vX5_read_84 {l : Launch} {G : pG} {bg : Nat × Nat} {n : Nat} {K : Int → Nat × Nat} {F E : Int → Int → Int} {Q : Option pV → pM → Prop} (x0 x2 s0 : Int) (h : ((¬ s0 = 0 → (-2147483648 ≤ x2 + 1 ∧ x2 + 1 < 2147483648) ∧ PW l G 82 mX5_read bg 40 [(0, (2, x0)), (2, (0, x2 + 1))] [] (n, K, F, E) Q) ∧ (s0 = 0 → (K x0).1 = 5 ∧ (K (F x0 0)).1 = 10 ∧ (K (F (F x0 0) 2)).1 = 20 ∧ ((0 : Int) ≤ F x0 4 ∧ F x0 4 < ((K (F (F x0 0) 2)).2 : Int)) ∧ Q (some (0, E (F (F x0 0) 2) (F x0 4))) (n, K, F, E)))) : PW l G 82 mX5_read bg 84 [(0, (2, x0)), (2, (0, x2))] [(0, s0)] (n, K, F, E) Q := by
  refine s_if_ne (q := 87) (tgt := 100) 44 rfl rfl (fun hb => ?_) (fun hb => ?_)
  · skip
    have b1 := hb
    replace h := h.1 hb
    obtain ⟨c2, h⟩ := h
    refine n_iinc (q := 103) (lv' := [(2, (0, x2 + 1)), (0, (2, x0))]) 52 1 rfl rfl c2 rfl ?_
    refine s_goto (tgt := 40) 53 rfl rfl ?_
    refine PW.pick [1, 0] rfl ?_
    exact h
  · have hb := Classical.not_not.mp hb
    have b1 := hb
    replace h := h.2 hb
    refine s_aload_n (q := 88) 45 0 rfl rfl ?_
    obtain ⟨c3, h⟩ := h
    refine n_getf (q := 91) (jj := 0) 46 5 0 rfl kX5_12 c3 ?_
    obtain ⟨c4, h⟩ := h
    refine n_getf (q := 94) (jj := 2) 47 10 2 rfl kX5_49 c4 ?_
    refine s_aload_n (q := 95) 48 0 rfl rfl ?_
    refine n_getf (q := 98) (jj := 4) 49 5 4 rfl kX5_33 c3 ?_
    obtain ⟨c5, h⟩ := h
    obtain ⟨c6, h⟩ := h
    refine n_iald (q := 99) 50 rfl c5 c6 ?_
    exact s_iret 51 rfl rfl h
theorem vX5_skip_0 {l : Launch} {G : pG} {bg : Nat × Nat} {n : Nat} {K : Int → Nat × Nat} {F E : Int → Int → Int} {Q : Option pV → pM → Prop} (x0 x1 : Int) (h : (K x0).1 = 5 ∧ (K (F x0 0)).1 = 10 ∧ (K (F (F x0 0) 1)).1 = 20 ∧ ((0 : Int) ≤ F x0 4 ∧ F x0 4 < ((K (F (F x0 0) 1)).2 : Int)) ∧ ((¬ (E (F (F x0 0) 1) (F x0 4)) = x1 → Q (some (0, 0)) (n, K, F, E)) ∧ ((E (F (F x0 0) 1) (F x0 4)) = x1 → ((¬ x1 = 256 → (-2147483648 ≤ (F x0 4) + 1 ∧ (F x0 4) + 1 < 2147483648) ∧ (∀ F1, F1 = pUp F x0 4 ((F x0 4) + 1) → Q (some (0, 1)) (n, K, F1, E))) ∧ (x1 = 256 → Q (some (0, 0)) (n, K, F, E)))))) : PW l G 0 mX5_skip bg 0 [(0, (2, x0)), (1, (0, x1))] [] (n, K, F, E) Q := by
  refine s_aload_n (q := 1) 0 0 rfl rfl ?_
  obtain ⟨c1, h⟩ := h
  refine n_getf (q := 4) (jj := 0) 1 5 0 rfl kX5_12 c1 ?_
  obtain ⟨c2, h⟩ := h
  refine n_getf (q := 7) (jj := 1) 2 10 1 rfl kX5_60 c2 ?_
  refine s_aload_n (q := 8) 3 0 rfl rfl ?_
  refine n_getf (q := 11) (jj := 4) 4 5 4 rfl kX5_33 c1 ?_
  obtain ⟨c3, h⟩ := h
  obtain ⟨c4, h⟩ := h
  refine n_iald (q := 12) 5 rfl c3 c4 ?_
  refine s_iload_n (q := 13) 6 1 rfl rfl ?_
  refine s_icmp_ne (q := 16) (tgt := 23) 7 rfl rfl (fun hb => ?_) (fun hb => ?_)
  · skip
    have b5 := hb
    replace h := h.1 hb
    refine s_iconst (q := 24) 11 rfl ?_
    exact s_zret 12 rfl rfl (by decide) h
  · have hb := Classical.not_not.mp hb
    have b5 := hb
    replace h := h.2 hb
    refine s_iload_n (q := 17) 8 1 rfl rfl ?_
    refine s_sipush (q := 20) 9 rfl ?_
    refine s_icmp_ne (q := 23) (tgt := 25) 10 rfl rfl (fun hb => ?_) (fun hb => ?_)
    · skip
      have b6 := hb
      replace h := h.1 hb
      refine s_aload_n (q := 26) 13 0 rfl rfl ?_
      refine s_dup (q := 27) 14 rfl ?_
      refine n_getf (q := 30) (jj := 4) 15 5 4 rfl kX5_33 c1 ?_
      refine s_iconst (q := 31) 16 rfl ?_
      obtain ⟨c7, h⟩ := h
      refine n_iadd (q := 32) 17 rfl c7 ?_
      refine n_putf (q := 35) (jj := 4) 18 5 4 rfl kX5_33 c1 (Or.inl rfl) ?_
      refine PW.nameF (fun F1 eF1 => ?_)
      replace h := h F1 eF1
      refine s_iconst (q := 36) 19 rfl ?_
      exact s_zret 20 rfl rfl (by decide) h
    · have hb := Classical.not_not.mp hb
      have b6 := hb
      replace h := h.2 hb
      refine s_iconst (q := 24) 11 rfl ?_
      exact s_zret 12 rfl rfl (by decide) h
theorem vX5_readClause_0 {l : Launch} {G : pG} {bg : Nat × Nat} {n : Nat} {K : Int → Nat × Nat} {F E : Int → Int → Int} {Q : Option pV → pM → Prop} (x0 : Int) (h : (K x0).1 = 5 ∧ ((F x0 2 = 0 → ((F x0 2 = 0 → (K (F x0 0)).1 = 10 ∧ (K (F (F x0 0) 1)).1 = 20 ∧ ((0 : Int) ≤ F x0 4 ∧ F x0 4 < ((K (F (F x0 0) 1)).2 : Int)) ∧ (-2147483648 ≤ (E (F (F x0 0) 1) (F x0 4)) - 275 ∧ (E (F (F x0 0) 1) (F x0 4)) - 275 < 2147483648) ∧ (((E (F (F x0 0) 1) (F x0 4)) - 275 < 0 → Q (some (0, 0)) (n, K, F, E)) ∧ (¬ ((E (F (F x0 0) 1) (F x0 4)) - 275 < 0) → (((E (F (F x0 0) 1) (F x0 4)) - 275 ≤ 3 → (K (F x0 1)).1 = 9 ∧ PC l G 0 mX9_beginClause (0, 0) [(2, F x0 1), (0, (E (F (F x0 0) 1) (F x0 4)) - 275)] (n, K, F, E) (fun r μ => PW l G 81 mX5_readClause bg 70 [(0, (2, x0)), (3, (0, (E (F (F x0 0) 1) (F x0 4)) - 275))] (r.toList ++ []) μ Q)) ∧ (¬ ((E (F (F x0 0) 1) (F x0 4)) - 275 ≤ 3) → Q (some (0, 0)) (n, K, F, E)))))) ∧ (¬ (F x0 2 = 0) → (K (F x0 0)).1 = 10 ∧ (K (F (F x0 0) 1)).1 = 20 ∧ ((0 : Int) ≤ F x0 4 ∧ F x0 4 < ((K (F (F x0 0) 1)).2 : Int)) ∧ (-2147483648 ≤ (E (F (F x0 0) 1) (F x0 4)) - 275 ∧ (E (F (F x0 0) 1) (F x0 4)) - 275 < 2147483648) ∧ (((E (F (F x0 0) 1) (F x0 4)) - 275 < 0 → Q (some (0, 0)) (n, K, F, E)) ∧ (¬ ((E (F (F x0 0) 1) (F x0 4)) - 275 < 0) → (((E (F (F x0 0) 1) (F x0 4)) - 275 ≤ (-1) → (K (F x0 1)).1 = 9 ∧ PC l G 0 mX9_beginClause (0, 0) [(2, F x0 1), (0, (E (F (F x0 0) 1) (F x0 4)) - 275)] (n, K, F, E) (fun r μ => PW l G 81 mX5_readClause bg 70 [(0, (2, x0)), (3, (0, (E (F (F x0 0) 1) (F x0 4)) - 275))] (r.toList ++ []) μ Q)) ∧ (¬ ((E (F (F x0 0) 1) (F x0 4)) - 275 ≤ (-1)) → Q (some (0, 0)) (n, K, F, E)))))))) ∧ (¬ (F x0 2 = 0) → ((F x0 2 = 0 → (K (F x0 0)).1 = 10 ∧ (K (F (F x0 0) 1)).1 = 20 ∧ ((0 : Int) ≤ F x0 4 ∧ F x0 4 < ((K (F (F x0 0) 1)).2 : Int)) ∧ (-2147483648 ≤ (E (F (F x0 0) 1) (F x0 4)) - 273 ∧ (E (F (F x0 0) 1) (F x0 4)) - 273 < 2147483648) ∧ (((E (F (F x0 0) 1) (F x0 4)) - 273 < 0 → Q (some (0, 0)) (n, K, F, E)) ∧ (¬ ((E (F (F x0 0) 1) (F x0 4)) - 273 < 0) → (((E (F (F x0 0) 1) (F x0 4)) - 273 ≤ 5 → (K (F x0 1)).1 = 9 ∧ PC l G 0 mX9_beginClause (0, 0) [(2, F x0 1), (0, (E (F (F x0 0) 1) (F x0 4)) - 273)] (n, K, F, E) (fun r μ => PW l G 81 mX5_readClause bg 70 [(0, (2, x0)), (3, (0, (E (F (F x0 0) 1) (F x0 4)) - 273))] (r.toList ++ []) μ Q)) ∧ (¬ ((E (F (F x0 0) 1) (F x0 4)) - 273 ≤ 5) → Q (some (0, 0)) (n, K, F, E)))))) ∧ (¬ (F x0 2 = 0) → (K (F x0 0)).1 = 10 ∧ (K (F (F x0 0) 1)).1 = 20 ∧ ((0 : Int) ≤ F x0 4 ∧ F x0 4 < ((K (F (F x0 0) 1)).2 : Int)) ∧ (-2147483648 ≤ (E (F (F x0 0) 1) (F x0 4)) - 273 ∧ (E (F (F x0 0) 1) (F x0 4)) - 273 < 2147483648) ∧ (((E (F (F x0 0) 1) (F x0 4)) - 273 < 0 → Q (some (0, 0)) (n, K, F, E)) ∧ (¬ ((E (F (F x0 0) 1) (F x0 4)) - 273 < 0) → (((E (F (F x0 0) 1) (F x0 4)) - 273 ≤ 1 → (K (F x0 1)).1 = 9 ∧ PC l G 0 mX9_beginClause (0, 0) [(2, F x0 1), (0, (E (F (F x0 0) 1) (F x0 4)) - 273)] (n, K, F, E) (fun r μ => PW l G 81 mX5_readClause bg 70 [(0, (2, x0)), (3, (0, (E (F (F x0 0) 1) (F x0 4)) - 273))] (r.toList ++ []) μ Q)) ∧ (¬ ((E (F (F x0 0) 1) (F x0 4)) - 273 ≤ 1) → Q (some (0, 0)) (n, K, F, E)))))))))) : PW l G 81 mX5_readClause bg 0 [(0, (2, x0))] [] (n, K, F, E) Q := by
  refine s_aload_n (q := 1) 0 0 rfl rfl ?_
  obtain ⟨c1, h⟩ := h
  refine n_getf (q := 4) (jj := 2) 1 5 2 rfl kX5_25 c1 ?_
  refine s_if_eq (q := 7) (tgt := 13) 2 rfl rfl (fun hb => ?_) (fun hb => ?_)
  · skip
    have b2 := hb
    replace h := h.1 hb
    refine s_sipush (q := 16) 5 rfl ?_
    refine s_istore_n (q := 17) (lv' := [(1, (0, 275)), (0, (2, x0))]) 6 rfl rfl ?_
    refine s_aload_n (q := 18) 7 1 rfl rfl ?_
    refine n_getf (q := 21) (jj := 2) 8 5 2 rfl kX5_25 c1 ?_
    refine s_if_eq (q := 24) (tgt := 30) 9 rfl rfl (fun hb => ?_) (fun hb => ?_)
    · skip
      have b3 := hb
      replace h := h.1 hb
      refine s_sipush (q := 33) 12 rfl ?_
      refine s_istore_n (q := 34) (lv' := [(2, (0, 278)), (1, (0, 275)), (0, (2, x0))]) 13 rfl rfl ?_
      refine s_aload_n (q := 35) 14 2 rfl rfl ?_
      refine n_getf (q := 38) (jj := 0) 15 5 0 rfl kX5_12 c1 ?_
      obtain ⟨c4, h⟩ := h
      refine n_getf (q := 41) (jj := 1) 16 10 1 rfl kX5_60 c4 ?_
      refine s_aload_n (q := 42) 17 2 rfl rfl ?_
      refine n_getf (q := 45) (jj := 4) 18 5 4 rfl kX5_33 c1 ?_
      obtain ⟨c5, h⟩ := h
      obtain ⟨c6, h⟩ := h
      refine n_iald (q := 46) 19 rfl c5 c6 ?_
      refine s_iload_n (q := 47) 20 1 rfl rfl ?_
      obtain ⟨c7, h⟩ := h
      refine n_isub (q := 48) 21 rfl c7 ?_
      refine s_istore_n (q := 49) (lv' := [(3, (0, (E (F (F x0 0) 1) (F x0 4)) - 275)), (2, (0, 278)), (1, (0, 275)), (0, (2, x0))]) 22 rfl rfl ?_
      refine s_iload_n (q := 50) 23 0 rfl rfl ?_
      refine s_if_lt (q := 53) (tgt := 60) 24 rfl rfl (fun hb => ?_) (fun hb => ?_)
      · skip
        have b8 := hb
        replace h := h.1 hb
        refine s_iconst (q := 61) 30 rfl ?_
        exact s_zret 31 rfl rfl (by decide) h
      · skip
        have b8 := hb
        replace h := h.2 hb
        refine s_iload_n (q := 54) 25 0 rfl rfl ?_
        refine s_iload_n (q := 55) 26 1 rfl rfl ?_
        refine s_iload_n (q := 56) 27 2 rfl rfl ?_
        refine n_isub (q := 57) 28 rfl (by decide) ?_
        refine PW.top (b := 3) (by decide) ?_
        refine s_icmp_le (q := 60) (tgt := 62) 29 rfl rfl (fun hb => ?_) (fun hb => ?_)
        · skip
          have b9 := hb
          replace h := h.1 hb
          refine s_aload_n (q := 63) 32 3 rfl rfl ?_
          refine n_getf (q := 66) (jj := 1) 33 5 1 rfl kX5_21 c1 ?_
          refine s_iload_n (q := 67) 34 0 rfl rfl ?_
          obtain ⟨c10, h⟩ := h
          refine PW.pick [3, 0] rfl ?_
          exact n_callV (N := mX9_beginClause) (as := [(0, (E (F (F x0 0) 1) (F x0 4)) - 275)]) (st := []) (q := 70) (d' := 0) 35 rfl uX9_beginClause kX5_63 rfl c10 h
        · skip
          have b9 := hb
          replace h := h.2 hb
          refine s_iconst (q := 61) 30 rfl ?_
          exact s_zret 31 rfl rfl (by decide) h
    · skip
      have b3 := hb
      replace h := h.2 hb
      refine s_sipush (q := 27) 10 rfl ?_
      refine s_goto (tgt := 33) 11 rfl rfl ?_
      refine s_istore_n (q := 34) (lv' := [(2, (0, 274)), (1, (0, 275)), (0, (2, x0))]) 13 rfl rfl ?_
      refine s_aload_n (q := 35) 14 2 rfl rfl ?_
      refine n_getf (q := 38) (jj := 0) 15 5 0 rfl kX5_12 c1 ?_
      obtain ⟨c11, h⟩ := h
      refine n_getf (q := 41) (jj := 1) 16 10 1 rfl kX5_60 c11 ?_
      refine s_aload_n (q := 42) 17 2 rfl rfl ?_
      refine n_getf (q := 45) (jj := 4) 18 5 4 rfl kX5_33 c1 ?_
      obtain ⟨c12, h⟩ := h
      obtain ⟨c13, h⟩ := h
      refine n_iald (q := 46) 19 rfl c12 c13 ?_
      refine s_iload_n (q := 47) 20 1 rfl rfl ?_
      obtain ⟨c14, h⟩ := h
      refine n_isub (q := 48) 21 rfl c14 ?_
      refine s_istore_n (q := 49) (lv' := [(3, (0, (E (F (F x0 0) 1) (F x0 4)) - 275)), (2, (0, 274)), (1, (0, 275)), (0, (2, x0))]) 22 rfl rfl ?_
      refine s_iload_n (q := 50) 23 0 rfl rfl ?_
      refine s_if_lt (q := 53) (tgt := 60) 24 rfl rfl (fun hb => ?_) (fun hb => ?_)
      · skip
        have b15 := hb
        replace h := h.1 hb
        refine s_iconst (q := 61) 30 rfl ?_
        exact s_zret 31 rfl rfl (by decide) h
      · skip
        have b15 := hb
        replace h := h.2 hb
        refine s_iload_n (q := 54) 25 0 rfl rfl ?_
        refine s_iload_n (q := 55) 26 1 rfl rfl ?_
        refine s_iload_n (q := 56) 27 2 rfl rfl ?_
        refine n_isub (q := 57) 28 rfl (by decide) ?_
        refine PW.top (b := (-1)) (by decide) ?_
        refine s_icmp_le (q := 60) (tgt := 62) 29 rfl rfl (fun hb => ?_) (fun hb => ?_)
        · skip
          have b16 := hb
          replace h := h.1 hb
          refine s_aload_n (q := 63) 32 3 rfl rfl ?_
          refine n_getf (q := 66) (jj := 1) 33 5 1 rfl kX5_21 c1 ?_
          refine s_iload_n (q := 67) 34 0 rfl rfl ?_
          obtain ⟨c17, h⟩ := h
          refine PW.pick [3, 0] rfl ?_
          exact n_callV (N := mX9_beginClause) (as := [(0, (E (F (F x0 0) 1) (F x0 4)) - 275)]) (st := []) (q := 70) (d' := 0) 35 rfl uX9_beginClause kX5_63 rfl c17 h
        · skip
          have b16 := hb
          replace h := h.2 hb
          refine s_iconst (q := 61) 30 rfl ?_
          exact s_zret 31 rfl rfl (by decide) h
  · skip
    have b2 := hb
    replace h := h.2 hb
    refine s_sipush (q := 10) 3 rfl ?_
    refine s_goto (tgt := 16) 4 rfl rfl ?_
    refine s_istore_n (q := 17) (lv' := [(1, (0, 273)), (0, (2, x0))]) 6 rfl rfl ?_
    refine s_aload_n (q := 18) 7 1 rfl rfl ?_
    refine n_getf (q := 21) (jj := 2) 8 5 2 rfl kX5_25 c1 ?_
    refine s_if_eq (q := 24) (tgt := 30) 9 rfl rfl (fun hb => ?_) (fun hb => ?_)
    · skip
      have b18 := hb
      replace h := h.1 hb
      refine s_sipush (q := 33) 12 rfl ?_
      refine s_istore_n (q := 34) (lv' := [(2, (0, 278)), (1, (0, 273)), (0, (2, x0))]) 13 rfl rfl ?_
      refine s_aload_n (q := 35) 14 2 rfl rfl ?_
      refine n_getf (q := 38) (jj := 0) 15 5 0 rfl kX5_12 c1 ?_
      obtain ⟨c19, h⟩ := h
      refine n_getf (q := 41) (jj := 1) 16 10 1 rfl kX5_60 c19 ?_
      refine s_aload_n (q := 42) 17 2 rfl rfl ?_
      refine n_getf (q := 45) (jj := 4) 18 5 4 rfl kX5_33 c1 ?_
      obtain ⟨c20, h⟩ := h
      obtain ⟨c21, h⟩ := h
      refine n_iald (q := 46) 19 rfl c20 c21 ?_
      refine s_iload_n (q := 47) 20 1 rfl rfl ?_
      obtain ⟨c22, h⟩ := h
      refine n_isub (q := 48) 21 rfl c22 ?_
      refine s_istore_n (q := 49) (lv' := [(3, (0, (E (F (F x0 0) 1) (F x0 4)) - 273)), (2, (0, 278)), (1, (0, 273)), (0, (2, x0))]) 22 rfl rfl ?_
      refine s_iload_n (q := 50) 23 0 rfl rfl ?_
      refine s_if_lt (q := 53) (tgt := 60) 24 rfl rfl (fun hb => ?_) (fun hb => ?_)
      · skip
        have b23 := hb
        replace h := h.1 hb
        refine s_iconst (q := 61) 30 rfl ?_
        exact s_zret 31 rfl rfl (by decide) h
      · skip
        have b23 := hb
        replace h := h.2 hb
        refine s_iload_n (q := 54) 25 0 rfl rfl ?_
        refine s_iload_n (q := 55) 26 1 rfl rfl ?_
        refine s_iload_n (q := 56) 27 2 rfl rfl ?_
        refine n_isub (q := 57) 28 rfl (by decide) ?_
        refine PW.top (b := 5) (by decide) ?_
        refine s_icmp_le (q := 60) (tgt := 62) 29 rfl rfl (fun hb => ?_) (fun hb => ?_)
        · skip
          have b24 := hb
          replace h := h.1 hb
          refine s_aload_n (q := 63) 32 3 rfl rfl ?_
          refine n_getf (q := 66) (jj := 1) 33 5 1 rfl kX5_21 c1 ?_
          refine s_iload_n (q := 67) 34 0 rfl rfl ?_
          obtain ⟨c25, h⟩ := h
          refine PW.pick [3, 0] rfl ?_
          exact n_callV (N := mX9_beginClause) (as := [(0, (E (F (F x0 0) 1) (F x0 4)) - 273)]) (st := []) (q := 70) (d' := 0) 35 rfl uX9_beginClause kX5_63 rfl c25 h
        · skip
          have b24 := hb
          replace h := h.2 hb
          refine s_iconst (q := 61) 30 rfl ?_
          exact s_zret 31 rfl rfl (by decide) h
    · skip
      have b18 := hb
      replace h := h.2 hb
      refine s_sipush (q := 27) 10 rfl ?_
      refine s_goto (tgt := 33) 11 rfl rfl ?_
      refine s_istore_n (q := 34) (lv' := [(2, (0, 274)), (1, (0, 273)), (0, (2, x0))]) 13 rfl rfl ?_
      refine s_aload_n (q := 35) 14 2 rfl rfl ?_
      refine n_getf (q := 38) (jj := 0) 15 5 0 rfl kX5_12 c1 ?_
      obtain ⟨c26, h⟩ := h
      refine n_getf (q := 41) (jj := 1) 16 10 1 rfl kX5_60 c26 ?_
      refine s_aload_n (q := 42) 17 2 rfl rfl ?_
      refine n_getf (q := 45) (jj := 4) 18 5 4 rfl kX5_33 c1 ?_
      obtain ⟨c27, h⟩ := h
      obtain ⟨c28, h⟩ := h
      refine n_iald (q := 46) 19 rfl c27 c28 ?_
      refine s_iload_n (q := 47) 20 1 rfl rfl ?_
      obtain ⟨c29, h⟩ := h
      refine n_isub (q := 48) 21 rfl c29 ?_
      refine s_istore_n (q := 49) (lv' := [(3, (0, (E (F (F x0 0) 1) (F x0 4)) - 273)), (2, (0, 274)), (1, (0, 273)), (0, (2, x0))]) 22 rfl rfl ?_
      refine s_iload_n (q := 50) 23 0 rfl rfl ?_
      refine s_if_lt (q := 53) (tgt := 60) 24 rfl rfl (fun hb => ?_) (fun hb => ?_)
      · skip
        have b30 := hb
        replace h := h.1 hb
        refine s_iconst (q := 61) 30 rfl ?_
        exact s_zret 31 rfl rfl (by decide) h
      · skip
        have b30 := hb
        replace h := h.2 hb
        refine s_iload_n (q := 54) 25 0 rfl rfl ?_
        refine s_iload_n (q := 55) 26 1 rfl rfl ?_
        refine s_iload_n (q := 56) 27 2 rfl rfl ?_
        refine n_isub (q := 57) 28 rfl (by decide) ?_
        refine PW.top (b := 1) (by decide) ?_
        refine s_icmp_le (q := 60) (tgt := 62) 29 rfl rfl (fun hb => ?_) (fun hb => ?_)
        · skip
          have b31 := hb
          replace h := h.1 hb
          refine s_aload_n (q := 63) 32 3 rfl rfl ?_
          refine n_getf (q := 66) (jj := 1) 33 5 1 rfl kX5_21 c1 ?_
          refine s_iload_n (q := 67) 34 0 rfl rfl ?_
          obtain ⟨c32, h⟩ := h
          refine PW.pick [3, 0] rfl ?_
          exact n_callV (N := mX9_beginClause) (as := [(0, (E (F (F x0 0) 1) (F x0 4)) - 273)]) (st := []) (q := 70) (d' := 0) 35 rfl uX9_beginClause kX5_63 rfl c32 h
        · skip
          have b31 := hb
          replace h := h.2 hb
          refine s_iconst (q := 61) 30 rfl ?_
          exact s_zret 31 rfl rfl (by decide) h
theorem vX5_readClause_70 {l : Launch} {G : pG} {bg : Nat × Nat} {n : Nat} {K : Int → Nat × Nat} {F E : Int → Int → Int} {Q : Option pV → pM → Prop} (x0 x3 : Int) (h : (K x0).1 = 5 ∧ (-2147483648 ≤ (F x0 4) + 1 ∧ (F x0 4) + 1 < 2147483648) ∧ (∀ F1, F1 = pUp F x0 4 ((F x0 4) + 1) → ((F x0 2 = 0 → PC l G 62 mX5_readOrder (0, 0) [(2, x0), (0, x3)] (n, K, F1, E) (fun r μ => PW l G 81 mX5_readClause bg 108 [(0, (2, x0))] (r.toList ++ []) μ Q)) ∧ (¬ (F x0 2 = 0) → ((x3 = 1 → PC l G 0 mX5_skip (0, 0) [(2, x0), (0, 282)] (n, K, F1, E) (fun r μ => PW l G 81 mX5_readClause bg 120 [(0, (2, x0))] (r.toList ++ []) μ Q)) ∧ (¬ (x3 = 1) → PC l G 61 mX5_readWhole (0, 0) [(2, x0), (0, 0)] (n, K, F1, E) (fun r μ => PW l G 81 mX5_readClause bg 97 [(0, (2, x0))] (r.toList ++ []) μ Q))))))) : PW l G 81 mX5_readClause bg 70 [(0, (2, x0)), (3, (0, x3))] [] (n, K, F, E) Q := by
  refine s_aload_n (q := 71) 36 0 rfl rfl ?_
  refine s_dup (q := 72) 37 rfl ?_
  obtain ⟨c1, h⟩ := h
  refine n_getf (q := 75) (jj := 4) 38 5 4 rfl kX5_33 c1 ?_
  refine s_iconst (q := 76) 39 rfl ?_
  obtain ⟨c2, h⟩ := h
  refine n_iadd (q := 77) 40 rfl c2 ?_
  refine n_putf (q := 80) (jj := 4) 41 5 4 rfl kX5_33 c1 (Or.inl rfl) ?_
  refine PW.nameF (fun F1 eF1 => ?_)
  replace h := h F1 eF1
  refine s_aload_n (q := 81) 42 0 rfl rfl ?_
  refine n_getf (q := 84) (jj := 2) 43 5 2 rfl kX5_25 c1 ?_
  refine PW.top (b := F x0 2) (by exact (congrFun (congrFun eF1 _) _).trans (pUp_k (by decide))) ?_
  refine s_if_eq (q := 87) (tgt := 103) 44 rfl rfl (fun hb => ?_) (fun hb => ?_)
  · skip
    have b3 := hb
    replace h := h.1 hb
    refine s_aload_n (q := 104) 53 0 rfl rfl ?_
    refine s_iload_n (q := 105) 54 1 rfl rfl ?_
    refine PW.pick [0] rfl ?_
    exact n_callV (N := mX5_readOrder) (as := [(0, x3)]) (st := []) (q := 108) (d' := 62) 55 rfl uX5_readOrder kX5_70 rfl c1 h
  · skip
    have b3 := hb
    replace h := h.2 hb
    refine s_iload_n (q := 88) 45 1 rfl rfl ?_
    refine s_iconst (q := 89) 46 rfl ?_
    refine s_icmp_eq (q := 92) (tgt := 113) 47 rfl rfl (fun hb => ?_) (fun hb => ?_)
    · skip
      have b4 := hb
      replace h := h.1 hb
      refine s_aload_n (q := 114) 59 0 rfl rfl ?_
      refine s_sipush (q := 117) 60 rfl ?_
      refine PW.pick [0] rfl ?_
      exact n_callV (N := mX5_skip) (as := [(0, 282)]) (st := []) (q := 120) (d' := 0) 61 rfl uX5_skip kX5_57 rfl c1 h
    · skip
      have b4 := hb
      replace h := h.2 hb
      refine s_aload_n (q := 93) 48 0 rfl rfl ?_
      refine s_iconst (q := 94) 49 rfl ?_
      refine PW.pick [0] rfl ?_
      exact n_callV (N := mX5_readWhole) (as := [(0, 0)]) (st := []) (q := 97) (d' := 61) 50 rfl uX5_readWhole kX5_67 rfl c1 h
theorem vX5_readClause_97 {l : Launch} {G : pG} {bg : Nat × Nat} {n : Nat} {K : Int → Nat × Nat} {F E : Int → Int → Int} {Q : Option pV → pM → Prop} (x0 s0 : Int) (h : ((s0 = 0 → Q (some (0, 0)) (n, K, F, E)) ∧ (¬ (s0 = 0) → (K x0).1 = 5 ∧ PC l G 0 mX5_skip (0, 0) [(2, x0), (0, 282)] (n, K, F, E) (fun r μ => PW l G 81 mX5_readClause bg 120 [(0, (2, x0))] (r.toList ++ []) μ Q)))) : PW l G 81 mX5_readClause bg 97 [(0, (2, x0))] [(0, s0)] (n, K, F, E) Q := by
  refine s_if_eq (q := 100) (tgt := 111) 51 rfl rfl (fun hb => ?_) (fun hb => ?_)
  · skip
    have b1 := hb
    replace h := h.1 hb
    refine s_iconst (q := 112) 57 rfl ?_
    exact s_zret 58 rfl rfl (by decide) h
  · skip
    have b1 := hb
    replace h := h.2 hb
    refine s_goto (tgt := 113) 52 rfl rfl ?_
    refine s_aload_n (q := 114) 59 0 rfl rfl ?_
    refine s_sipush (q := 117) 60 rfl ?_
    obtain ⟨c2, h⟩ := h
    refine PW.pick [0] rfl ?_
    exact n_callV (N := mX5_skip) (as := [(0, 282)]) (st := []) (q := 120) (d' := 0) 61 rfl uX5_skip kX5_57 rfl c2 h
theorem vX5_readClause_108 {l : Launch} {G : pG} {bg : Nat × Nat} {n : Nat} {K : Int → Nat × Nat} {F E : Int → Int → Int} {Q : Option pV → pM → Prop} (x0 s0 : Int) (h : ((¬ s0 = 0 → (K x0).1 = 5 ∧ PC l G 0 mX5_skip (0, 0) [(2, x0), (0, 282)] (n, K, F, E) (fun r μ => PW l G 81 mX5_readClause bg 120 [(0, (2, x0))] (r.toList ++ []) μ Q)) ∧ (s0 = 0 → Q (some (0, 0)) (n, K, F, E)))) : PW l G 81 mX5_readClause bg 108 [(0, (2, x0))] [(0, s0)] (n, K, F, E) Q := by
  refine s_if_ne (q := 111) (tgt := 113) 56 rfl rfl (fun hb => ?_) (fun hb => ?_)
  · skip
    have b1 := hb
    replace h := h.1 hb
    refine s_aload_n (q := 114) 59 0 rfl rfl ?_
    refine s_sipush (q := 117) 60 rfl ?_
    obtain ⟨c2, h⟩ := h
    refine PW.pick [0] rfl ?_
    exact n_callV (N := mX5_skip) (as := [(0, 282)]) (st := []) (q := 120) (d' := 0) 61 rfl uX5_skip kX5_57 rfl c2 h
  · have hb := Classical.not_not.mp hb
    have b1 := hb
    replace h := h.2 hb
    refine s_iconst (q := 112) 57 rfl ?_
    exact s_zret 58 rfl rfl (by decide) h
theorem vX5_readClause_120 {l : Launch} {G : pG} {bg : Nat × Nat} {n : Nat} {K : Int → Nat × Nat} {F E : Int → Int → Int} {Q : Option pV → pM → Prop} (x0 s0 : Int) (h : ((¬ s0 = 0 → (K x0).1 = 5 ∧ (K (F x0 1)).1 = 9 ∧ (-2147483648 ≤ (F (F x0 1) 2) - 1 ∧ (F (F x0 1) 2) - 1 < 2147483648) ∧ (-2147483648 ≤ ((F (F x0 1) 2) - 1) * 6 ∧ ((F (F x0 1) 2) - 1) * 6 < 2147483648) ∧ (-2147483648 ≤ (((F (F x0 1) 2) - 1) * 6) + 2 ∧ (((F (F x0 1) 2) - 1) * 6) + 2 < 2147483648) ∧ (0 : Int) ≤ F (F x0 1) 0 ∧ (K (F (F x0 1) 0)).1 = 20 ∧ ((0 : Int) ≤ (((F (F x0 1) 2) - 1) * 6) + 2 ∧ (((F (F x0 1) 2) - 1) * 6) + 2 < ((K (F (F x0 1) 0)).2 : Int)) ∧ (∀ E1, E1 = pUp E (F (F x0 1) 0) ((((F (F x0 1) 2) - 1) * 6) + 2) (F (F x0 1) 3) → PC l G 80 mX5_readTest (0, 0) [(2, x0), (0, 0)] (n, K, F, E1) (fun r μ => PW l G 81 mX5_readClause bg 154 [(0, (2, x0))] (r.toList ++ []) μ Q))) ∧ (s0 = 0 → Q (some (0, 1)) (n, K, F, E)))) : PW l G 81 mX5_readClause bg 120 [(0, (2, x0))] [(0, s0)] (n, K, F, E) Q := by
  refine s_if_ne (q := 123) (tgt := 125) 62 rfl rfl (fun hb => ?_) (fun hb => ?_)
  · skip
    have b1 := hb
    replace h := h.1 hb
    refine s_aload_n (q := 126) 65 0 rfl rfl ?_
    obtain ⟨c2, h⟩ := h
    refine n_getf (q := 129) (jj := 1) 66 5 1 rfl kX5_21 c2 ?_
    refine s_aload_n (q := 130) 67 0 rfl rfl ?_
    refine n_getf (q := 133) (jj := 1) 68 5 1 rfl kX5_21 c2 ?_
    obtain ⟨c3, h⟩ := h
    refine n_getf (q := 136) (jj := 2) 69 9 2 rfl kX5_36 c3 ?_
    refine s_iconst (q := 137) 70 rfl ?_
    obtain ⟨c4, h⟩ := h
    refine n_isub (q := 138) 71 rfl c4 ?_
    refine s_iconst (q := 139) 72 rfl ?_
    refine s_aload_n (q := 140) 73 0 rfl rfl ?_
    refine n_getf (q := 143) (jj := 1) 74 5 1 rfl kX5_21 c2 ?_
    refine n_getf (q := 146) (jj := 3) 75 9 3 rfl kX5_39 c3 ?_
    refine n_callV (N := mX9_setPart) (as := [(0, (F (F x0 1) 2) - 1), (0, 2), (0, F (F x0 1) 3)]) (st := []) (q := 149) (d' := 0) 76 rfl uX9_setPart kX5_73 rfl c3 ?_
    show PW l G 0 mX9_setPart (0, 0) 0 [(0, (2, F x0 1)), (1, (0, (F (F x0 1) 2) - 1)), (2, (0, 2)), (3, (0, F (F x0 1) 3))] [] (n, K, F, E) _
    refine s_aload_n (q := 1) 0 0 rfl rfl ?_
    refine n_getf (q := 4) (jj := 0) 1 9 0 rfl kX9_11 c3 ?_
    refine s_iload_n (q := 5) 2 1 rfl rfl ?_
    refine s_bipush (q := 7) 3 rfl ?_
    obtain ⟨c5, h⟩ := h
    refine n_imul (q := 8) 4 rfl c5 ?_
    refine s_iload_n (q := 9) 5 2 rfl rfl ?_
    obtain ⟨c6, h⟩ := h
    refine n_iadd (q := 10) 6 rfl c6 ?_
    refine s_iload_n (q := 11) 7 3 rfl rfl ?_
    obtain ⟨c7, h⟩ := h
    obtain ⟨c8, h⟩ := h
    obtain ⟨c9, h⟩ := h
    refine n_iast (q := 12) 8 rfl c7 c8 c9 ?_
    refine PW.nameE (fun E1 eE1 => ?_)
    replace h := h E1 eE1
    refine s_vret 9 rfl rfl ?_
    show PW l G 81 mX5_readClause bg 149 [(0, (2, x0))] [] (n, K, F, E1) Q
    refine s_aload_n (q := 150) 77 0 rfl rfl ?_
    refine s_iconst (q := 151) 78 rfl ?_
    refine PW.pick [0] rfl ?_
    exact n_callV (N := mX5_readTest) (as := [(0, 0)]) (st := []) (q := 154) (d' := 80) 79 rfl uX5_readTest kX5_77 rfl c2 h
  · have hb := Classical.not_not.mp hb
    have b1 := hb
    replace h := h.2 hb
    refine s_iconst (q := 124) 63 rfl ?_
    exact s_zret 64 rfl rfl (by decide) h
theorem vX5_readClause_154 {l : Launch} {G : pG} {bg : Nat × Nat} {n : Nat} {K : Int → Nat × Nat} {F E : Int → Int → Int} {Q : Option pV → pM → Prop} (x0 s0 : Int) (h : ((¬ s0 = 0 → (K x0).1 = 5 ∧ (K (F x0 1)).1 = 9 ∧ PC l G 0 mX9_emit (0, 0) [(2, F x0 1), (0, 0), (0, 0)] (n, K, F, E) (fun r μ => PW l G 81 mX5_readClause bg 168 [] (r.toList ++ []) μ Q)) ∧ (s0 = 0 → Q (some (0, 0)) (n, K, F, E)))) : PW l G 81 mX5_readClause bg 154 [(0, (2, x0))] [(0, s0)] (n, K, F, E) Q := by
  refine s_if_ne (q := 157) (tgt := 159) 80 rfl rfl (fun hb => ?_) (fun hb => ?_)
  · skip
    have b1 := hb
    replace h := h.1 hb
    refine s_aload_n (q := 160) 83 0 rfl rfl ?_
    obtain ⟨c2, h⟩ := h
    refine n_getf (q := 163) (jj := 1) 84 5 1 rfl kX5_21 c2 ?_
    refine s_iconst (q := 164) 85 rfl ?_
    refine s_iconst (q := 165) 86 rfl ?_
    obtain ⟨c3, h⟩ := h
    refine PW.pick [] rfl ?_
    exact n_callV (N := mX9_emit) (as := [(0, 0), (0, 0)]) (st := []) (q := 168) (d' := 0) 87 rfl uX9_emit kX5_82 rfl c3 h
  · have hb := Classical.not_not.mp hb
    have b1 := hb
    replace h := h.2 hb
    refine s_iconst (q := 158) 81 rfl ?_
    exact s_zret 82 rfl rfl (by decide) h
theorem vX5_readClause_168 {l : Launch} {G : pG} {bg : Nat × Nat} {n : Nat} {K : Int → Nat × Nat} {F E : Int → Int → Int} {Q : Option pV → pM → Prop} (s0 : Int) (h : Q (some (0, 1)) (n, K, F, E)) : PW l G 81 mX5_readClause bg 168 [] [(0, s0)] (n, K, F, E) Q := by
  refine s_pop (q := 169) 88 rfl ?_
  refine s_iconst (q := 170) 89 rfl ?_
  exact s_zret 90 rfl rfl (by decide) h
