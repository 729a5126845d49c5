theorem vX11_runClause_0 {l : Launch} {G : pG} {bg : Nat × Nat} {n : Nat} {K : Int → Nat × Nat} {F E : Int → Int → Int} {Q : Option pV → pM → Prop} (x0 x1 x2 : Int) (h : (K x0).1 = 11 ∧ (K (F x0 12)).1 = 7 ∧ (K x1).1 = 9 ∧ (-2147483648 ≤ x2 * 6 ∧ x2 * 6 < 2147483648) ∧ (-2147483648 ≤ (x2 * 6) + 1 ∧ (x2 * 6) + 1 < 2147483648) ∧ (K (F x1 0)).1 = 20 ∧ ((0 : Int) ≤ (x2 * 6) + 1 ∧ (x2 * 6) + 1 < ((K (F x1 0)).2 : Int)) ∧ PW l G 32 mX11_runClause bg 19 [(0, (2, x0)), (1, (2, x1)), (2, (0, x2)), (3, (2, F (F x0 12) 2)), (4, (0, E (F x1 0) ((x2 * 6) + 1))), (5, (0, 0))] [] (n, K, F, E) Q) : PW l G 32 mX11_runClause bg 0 [(0, (2, x0)), (1, (2, x1)), (2, (0, x2))] [] (n, K, F, E) Q := by
  refine s_aload_n (q := 1) 0 0 rfl rfl ?_
  obtain ⟨c1, h⟩ := h
  refine n_getf (q := 4) (jj := 12) 1 11 12 rfl kX11_83 c1 ?_
  obtain ⟨c2, h⟩ := h
  refine n_getf (q := 7) (jj := 2) 2 7 2 rfl kX11_368 c2 ?_
  refine s_astore_n (q := 8) (lv' := [(3, (2, F (F x0 12) 2)), (0, (2, x0)), (1, (2, x1)), (2, (0, x2))]) 3 rfl rfl ?_
  refine s_aload_n (q := 9) 4 2 rfl rfl ?_
  refine s_iload_n (q := 10) 5 3 rfl rfl ?_
  refine s_iconst (q := 11) 6 rfl ?_
  obtain ⟨c3, h⟩ := h
  refine n_callV (N := mX9_part) (as := [(0, x2), (0, 1)]) (st := []) (q := 14) (d' := 0) 7 rfl uX9_part kX11_371 rfl c3 ?_
  show PW l G 0 mX9_part (0, 0) 0 [(0, (2, x1)), (1, (0, x2)), (2, (0, 1))] [] (n, K, F, E) _
  refine s_aload_n (q := 1) 0 0 rfl rfl ?_
  refine n_getf (q := 4) (jj := 0) 1 9 0 rfl kX9_11 c3 ?_
  refine s_iload_n (q := 5) 2 1 rfl rfl ?_
  refine s_bipush (q := 7) 3 rfl ?_
  obtain ⟨c4, h⟩ := h
  refine n_imul (q := 8) 4 rfl c4 ?_
  refine s_iload_n (q := 9) 5 2 rfl rfl ?_
  obtain ⟨c5, h⟩ := h
  refine n_iadd (q := 10) 6 rfl c5 ?_
  obtain ⟨c6, h⟩ := h
  obtain ⟨c7, h⟩ := h
  refine n_iald (q := 11) 7 rfl c6 c7 ?_
  refine s_iret 8 rfl rfl ?_
  show PW l G 32 mX11_runClause bg 14 [(3, (2, F (F x0 12) 2)), (0, (2, x0)), (1, (2, x1)), (2, (0, x2))] [(0, E (F x1 0) ((x2 * 6) + 1))] (n, K, F, E) Q
  refine s_istore (q := 16) (lv' := [(4, (0, E (F x1 0) ((x2 * 6) + 1))), (3, (2, F (F x0 12) 2)), (0, (2, x0)), (1, (2, x1)), (2, (0, x2))]) 8 rfl rfl ?_
  refine s_iconst (q := 17) 9 rfl ?_
  refine s_istore (q := 19) (lv' := [(5, (0, 0)), (4, (0, E (F x1 0) ((x2 * 6) + 1))), (3, (2, F (F x0 12) 2)), (0, (2, x0)), (1, (2, x1)), (2, (0, x2))]) 10 rfl rfl ?_
  refine PW.pick [3, 4, 5, 2, 1, 0] rfl ?_
  exact h
theorem vX11_runClause_19 {l : Launch} {G : pG} {bg : Nat × Nat} {n : Nat} {K : Int → Nat × Nat} {F E : Int → Int → Int} {Q : Option pV → pM → Prop} (x0 x1 x2 x3 x4 x5 : Int) (h : ((x4 ≤ x5 → Q none (n, K, F, E)) ∧ (¬ (x4 ≤ x5) → (K x0).1 = 11 ∧ (K (F x0 12)).1 = 7 ∧ ((¬ (F (F x0 12) 5) = (-1) → Q none (n, K, F, E)) ∧ ((F (F x0 12) 5) = (-1) → (K (F x0 0)).1 = 1 ∧ PC l G 1 mX7_setWords (0, 0) [(2, F x0 12), (2, F (F x0 0) 0)] (n, K, F, E) (fun r μ => PW l G 32 mX11_runClause bg 51 [(0, (2, x0)), (1, (2, x1)), (2, (0, x2)), (3, (2, x3)), (4, (0, x4)), (5, (0, x5))] (r.toList ++ []) μ Q)))))) : PW l G 32 mX11_runClause bg 19 [(0, (2, x0)), (1, (2, x1)), (2, (0, x2)), (3, (2, x3)), (4, (0, x4)), (5, (0, x5))] [] (n, K, F, E) Q := by
  refine s_iload (q := 21) 11 5 rfl rfl ?_
  refine s_iload (q := 23) 12 4 rfl rfl ?_
  refine s_icmp_ge (q := 26) (tgt := 248) 13 rfl rfl (fun hb => ?_) (fun hb => ?_)
  · skip
    have b1 := hb
    replace h := h.1 hb
    exact s_vret 118 rfl rfl h
  · skip
    have b1 := hb
    replace h := h.2 hb
    refine s_aload_n (q := 27) 14 0 rfl rfl ?_
    obtain ⟨c2, h⟩ := h
    refine n_getf (q := 30) (jj := 12) 15 11 12 rfl kX11_83 c2 ?_
    obtain ⟨c3, h⟩ := h
    refine n_getf (q := 33) (jj := 5) 16 7 5 rfl kX11_212 c3 ?_
    refine s_iconst (q := 34) 17 rfl ?_
    refine s_icmp_ne (q := 37) (tgt := 248) 18 rfl rfl (fun hb => ?_) (fun hb => ?_)
    · skip
      have b4 := hb
      replace h := h.1 hb
      exact s_vret 118 rfl rfl h
    · have hb := Classical.not_not.mp hb
      have b4 := hb
      replace h := h.2 hb
      refine s_aload_n (q := 38) 19 0 rfl rfl ?_
      refine n_getf (q := 41) (jj := 12) 20 11 12 rfl kX11_83 c2 ?_
      refine s_aload_n (q := 42) 21 0 rfl rfl ?_
      refine n_getf (q := 45) (jj := 0) 22 11 0 rfl kX11_10 c2 ?_
      obtain ⟨c5, h⟩ := h
      refine n_getf (q := 48) (jj := 0) 23 1 0 rfl kX11_125 c5 ?_
      refine PW.pick [0, 1, 2, 3, 4, 5] rfl ?_
      exact n_callV (N := mX7_setWords) (as := [(2, F (F x0 0) 0)]) (st := []) (q := 51) (d' := 1) 24 rfl uX7_setWords kX11_372 rfl c3 h
theorem vX11_runClause_51 {l : Launch} {G : pG} {bg : Nat × Nat} {n : Nat} {K : Int → Nat × Nat} {F E : Int → Int → Int} {Q : Option pV → pM → Prop} (x0 x1 x2 x3 x4 x5 : Int) (h : (K x0).1 = 11 ∧ (K (F x0 12)).1 = 7 ∧ (K (F (F x0 12) 0)).1 = 4 ∧ PC l G 2 mX4_isSo (0, 0) [(2, F (F x0 12) 0), (2, x1), (0, x2), (2, F (F x0 12) 1)] (n, K, F, E) (fun r μ => PW l G 32 mX11_runClause bg 70 [(0, (2, x0)), (1, (2, x1)), (2, (0, x2)), (3, (2, x3)), (4, (0, x4)), (5, (0, x5))] (r.toList ++ []) μ Q)) : PW l G 32 mX11_runClause bg 51 [(0, (2, x0)), (1, (2, x1)), (2, (0, x2)), (3, (2, x3)), (4, (0, x4)), (5, (0, x5))] [] (n, K, F, E) Q := by
  refine s_aload_n (q := 52) 25 0 rfl rfl ?_
  obtain ⟨c1, h⟩ := h
  refine n_getf (q := 55) (jj := 12) 26 11 12 rfl kX11_83 c1 ?_
  obtain ⟨c2, h⟩ := h
  refine n_getf (q := 58) (jj := 0) 27 7 0 rfl kX11_375 c2 ?_
  refine s_aload_n (q := 59) 28 1 rfl rfl ?_
  refine s_iload_n (q := 60) 29 2 rfl rfl ?_
  refine s_aload_n (q := 61) 30 0 rfl rfl ?_
  refine n_getf (q := 64) (jj := 12) 31 11 12 rfl kX11_83 c1 ?_
  refine n_getf (q := 67) (jj := 1) 32 7 1 rfl kX11_379 c2 ?_
  obtain ⟨c3, h⟩ := h
  refine PW.pick [0, 1, 2, 3, 4, 5] rfl ?_
  exact n_callV (N := mX4_isSo) (as := [(2, x1), (0, x2), (2, F (F x0 12) 1)]) (st := []) (q := 70) (d' := 2) 33 rfl uX4_isSo kX11_382 rfl c3 h
theorem vX11_runClause_70 {l : Launch} {G : pG} {bg : Nat × Nat} {n : Nat} {K : Int → Nat × Nat} {F E : Int → Int → Int} {Q : Option pV → pM → Prop} (x0 x1 x2 x3 x4 x5 s0 : Int) (h : ((¬ s0 = 0 → (K x0).1 = 11 ∧ (K (F x0 12)).1 = 7 ∧ (K (F (F x0 12) 0)).1 = 4 ∧ PC l G 2 mX4_setSums (0, 0) [(2, F (F x0 12) 0), (2, x1), (0, x2), (2, F (F x0 12) 1), (2, x3)] (n, K, F, E) (fun r μ => PW l G 32 mX11_runClause bg 100 [(0, (2, x0)), (1, (2, x1)), (2, (0, x2)), (3, (2, x3)), (4, (0, x4)), (5, (0, x5)), (6, (0, (-3)))] (r.toList ++ []) μ Q)) ∧ (s0 = 0 → (-2147483648 ≤ x5 + 1 ∧ x5 + 1 < 2147483648) ∧ PW l G 32 mX11_runClause bg 19 [(0, (2, x0)), (1, (2, x1)), (2, (0, x2)), (3, (2, x3)), (4, (0, x4)), (5, (0, x5 + 1))] [] (n, K, F, E) Q))) : PW l G 32 mX11_runClause bg 70 [(0, (2, x0)), (1, (2, x1)), (2, (0, x2)), (3, (2, x3)), (4, (0, x4)), (5, (0, x5))] [(0, s0)] (n, K, F, E) Q := by
  refine s_if_ne (q := 73) (tgt := 76) 34 rfl rfl (fun hb => ?_) (fun hb => ?_)
  · skip
    have b1 := hb
    replace h := h.1 hb
    refine s_bipush (q := 78) 36 rfl ?_
    refine s_istore (q := 80) (lv' := [(6, (0, (-3))), (0, (2, x0)), (1, (2, x1)), (2, (0, x2)), (3, (2, x3)), (4, (0, x4)), (5, (0, x5))]) 37 rfl rfl ?_
    refine s_aload_n (q := 81) 38 1 rfl rfl ?_
    obtain ⟨c2, h⟩ := h
    refine n_getf (q := 84) (jj := 12) 39 11 12 rfl kX11_83 c2 ?_
    obtain ⟨c3, h⟩ := h
    refine n_getf (q := 87) (jj := 0) 40 7 0 rfl kX11_375 c3 ?_
    refine s_aload_n (q := 88) 41 2 rfl rfl ?_
    refine s_iload_n (q := 89) 42 3 rfl rfl ?_
    refine s_aload_n (q := 90) 43 1 rfl rfl ?_
    refine n_getf (q := 93) (jj := 12) 44 11 12 rfl kX11_83 c2 ?_
    refine n_getf (q := 96) (jj := 1) 45 7 1 rfl kX11_379 c3 ?_
    refine s_aload_n (q := 97) 46 4 rfl rfl ?_
    obtain ⟨c4, h⟩ := h
    refine PW.pick [1, 2, 3, 4, 5, 6, 0] rfl ?_
    exact n_callV (N := mX4_setSums) (as := [(2, x1), (0, x2), (2, F (F x0 12) 1), (2, x3)]) (st := []) (q := 100) (d' := 2) 47 rfl uX4_setSums kX11_388 rfl c4 h
  · have hb := Classical.not_not.mp hb
    have b1 := hb
    replace h := h.2 hb
    refine s_goto (tgt := 242) 35 rfl rfl ?_
    obtain ⟨c5, h⟩ := h
    refine n_iinc (q := 245) (lv' := [(5, (0, x5 + 1)), (0, (2, x0)), (1, (2, x1)), (2, (0, x2)), (3, (2, x3)), (4, (0, x4))]) 116 5 rfl rfl c5 rfl ?_
    refine s_goto (tgt := 19) 117 rfl rfl ?_
    refine PW.pick [1, 2, 3, 4, 5, 0] rfl ?_
    exact h
theorem vX11_runClause_100 {l : Launch} {G : pG} {bg : Nat × Nat} {n : Nat} {K : Int → Nat × Nat} {F E : Int → Int → Int} {Q : Option pV → pM → Prop} (x0 x1 x2 x3 x4 x5 x6 s0 : Int) (h : ((s0 = 0 → ((0 ≤ x6 → (K x0).1 = 11 ∧ (K (F x0 12)).1 = 7 ∧ (-2147483648 ≤ (F (F x0 12) 3) + 1 ∧ (F (F x0 12) 3) + 1 < 2147483648) ∧ (∀ F1, F1 = pUp F (F x0 12) 3 ((F (F x0 12) 3) + 1) → (-2147483648 ≤ x5 + 1 ∧ x5 + 1 < 2147483648) ∧ PW l G 32 mX11_runClause bg 19 [(0, (2, x0)), (1, (2, x1)), (2, (0, x2)), (3, (2, x3)), (4, (0, x4)), (5, (0, x5 + 1))] [] (n, K, F1, E) Q)) ∧ (¬ (0 ≤ x6) → (K x0).1 = 11 ∧ (K (F x0 12)).1 = 7 ∧ (∀ F2, F2 = pUp F (F x0 12) 5 x2 → (-2147483648 ≤ x5 + 1 ∧ x5 + 1 < 2147483648) ∧ PW l G 32 mX11_runClause bg 19 [(0, (2, x0)), (1, (2, x1)), (2, (0, x2)), (3, (2, x3)), (4, (0, x4)), (5, (0, x5 + 1))] [] (n, K, F2, E) Q)))) ∧ (¬ (s0 = 0) → (K x1).1 = 9 ∧ (-2147483648 ≤ x2 * 6 ∧ x2 * 6 < 2147483648) ∧ (-2147483648 ≤ (x2 * 6) + 0 ∧ (x2 * 6) + 0 < 2147483648) ∧ (K (F x1 0)).1 = 20 ∧ ((0 : Int) ≤ (x2 * 6) + 0 ∧ (x2 * 6) + 0 < ((K (F x1 0)).2 : Int)) ∧ (((E (F x1 0) ((x2 * 6) + 0) < 0 ∨ 2 < E (F x1 0) ((x2 * 6) + 0)) → (K x3).1 = 20 ∧ ((0 : Int) ≤ 0 ∧ 0 < ((K x3).2 : Int)) ∧ ((0 : Int) ≤ 1 ∧ 1 < ((K x3).2 : Int)) ∧ (K x0).1 = 11 ∧ PC l G 1 mX11_changeIndex (0, 0) [(2, x0), (0, E x3 0), (0, E x3 1)] (n, K, F, E) (fun r μ => PW l G 32 mX11_runClause bg 211 [(0, (2, x0)), (1, (2, x1)), (2, (0, x2)), (3, (2, x3)), (4, (0, x4)), (5, (0, x5))] (r.toList ++ []) μ Q)) ∧ (E (F x1 0) ((x2 * 6) + 0) = 0 → (K x0).1 = 11 ∧ (K (F x0 0)).1 = 1 ∧ (K x3).1 = 20 ∧ ((0 : Int) ≤ 0 ∧ 0 < ((K x3).2 : Int)) ∧ ((0 : Int) ≤ 1 ∧ 1 < ((K x3).2 : Int)) ∧ ((0 : Int) ≤ 2 ∧ 2 < ((K x3).2 : Int)) ∧ PC l G 31 mX11_comeTo (0, 0) [(2, x0), (2, F (F x0 0) 0), (2, F x0 3), (0, E x3 0), (0, E x3 1), (0, E x3 2)] (n, K, F, E) (fun r μ => PW l G 32 mX11_runClause bg 160 [(0, (2, x0)), (1, (2, x1)), (2, (0, x2)), (3, (2, x3)), (4, (0, x4)), (5, (0, x5))] (r.toList ++ []) μ Q)) ∧ (E (F x1 0) ((x2 * 6) + 0) = 1 → (K x3).1 = 20 ∧ ((0 : Int) ≤ 0 ∧ 0 < ((K x3).2 : Int)) ∧ (K x0).1 = 11 ∧ PC l G 1 mX11_strikeOut (0, 0) [(2, x0), (0, E x3 0)] (n, K, F, E) (fun r μ => PW l G 32 mX11_runClause bg 181 [(0, (2, x0)), (1, (2, x1)), (2, (0, x2)), (3, (2, x3)), (4, (0, x4)), (5, (0, x5))] (r.toList ++ []) μ Q)) ∧ (E (F x1 0) ((x2 * 6) + 0) = 2 → (K x3).1 = 20 ∧ ((0 : Int) ≤ 0 ∧ 0 < ((K x3).2 : Int)) ∧ ((0 : Int) ≤ 1 ∧ 1 < ((K x3).2 : Int)) ∧ (K x0).1 = 11 ∧ PC l G 2 mX11_changeWindow (0, 0) [(2, x0), (0, E x3 0), (0, E x3 1)] (n, K, F, E) (fun r μ => PW l G 32 mX11_runClause bg 196 [(0, (2, x0)), (1, (2, x1)), (2, (0, x2)), (3, (2, x3)), (4, (0, x4)), (5, (0, x5))] (r.toList ++ []) μ Q)))))) : PW l G 32 mX11_runClause bg 100 [(0, (2, x0)), (1, (2, x1)), (2, (0, x2)), (3, (2, x3)), (4, (0, x4)), (5, (0, x5)), (6, (0, x6))] [(0, s0)] (n, K, F, E) Q := by
  refine s_if_eq (q := 103) (tgt := 213) 48 rfl rfl (fun hb => ?_) (fun hb => ?_)
  · skip
    have b1 := hb
    replace h := h.1 hb
    refine s_iload (q := 215) 102 6 rfl rfl ?_
    refine s_if_ge (q := 218) (tgt := 229) 103 rfl rfl (fun hb => ?_) (fun hb => ?_)
    · skip
      have b2 := hb
      replace h := h.1 hb
      refine s_aload_n (q := 230) 109 0 rfl rfl ?_
      obtain ⟨c3, h⟩ := h
      refine n_getf (q := 233) (jj := 12) 110 11 12 rfl kX11_83 c3 ?_
      refine s_dup (q := 234) 111 rfl ?_
      obtain ⟨c4, h⟩ := h
      refine n_getf (q := 237) (jj := 3) 112 7 3 rfl kX11_219 c4 ?_
      refine s_iconst (q := 238) 113 rfl ?_
      obtain ⟨c5, h⟩ := h
      refine n_iadd (q := 239) 114 rfl c5 ?_
      refine n_putf (q := 242) (jj := 3) 115 7 3 rfl kX11_219 c4 (Or.inl rfl) ?_
      refine PW.nameF (fun F1 eF1 => ?_)
      replace h := h F1 eF1
      obtain ⟨c6, h⟩ := h
      refine n_iinc (q := 245) (lv' := [(5, (0, x5 + 1)), (0, (2, x0)), (1, (2, x1)), (2, (0, x2)), (3, (2, x3)), (4, (0, x4)), (6, (0, x6))]) 116 5 rfl rfl c6 rfl ?_
      refine s_goto (tgt := 19) 117 rfl rfl ?_
      refine PW.pick [1, 2, 3, 4, 5, 0] rfl ?_
      exact h
    · skip
      have b2 := hb
      replace h := h.2 hb
      refine s_aload_n (q := 219) 104 0 rfl rfl ?_
      obtain ⟨c7, h⟩ := h
      refine n_getf (q := 222) (jj := 12) 105 11 12 rfl kX11_83 c7 ?_
      refine s_iload_n (q := 223) 106 2 rfl rfl ?_
      obtain ⟨c8, h⟩ := h
      refine n_putf (q := 226) (jj := 5) 107 7 5 rfl kX11_212 c8 (Or.inl rfl) ?_
      refine PW.nameF (fun F2 eF2 => ?_)
      replace h := h F2 eF2
      refine s_goto (tgt := 242) 108 rfl rfl ?_
      obtain ⟨c9, h⟩ := h
      refine n_iinc (q := 245) (lv' := [(5, (0, x5 + 1)), (0, (2, x0)), (1, (2, x1)), (2, (0, x2)), (3, (2, x3)), (4, (0, x4)), (6, (0, x6))]) 116 5 rfl rfl c9 rfl ?_
      refine s_goto (tgt := 19) 117 rfl rfl ?_
      refine PW.pick [1, 2, 3, 4, 5, 0] rfl ?_
      exact h
  · skip
    have b1 := hb
    replace h := h.2 hb
    refine s_aload_n (q := 104) 49 1 rfl rfl ?_
    refine s_iload_n (q := 105) 50 2 rfl rfl ?_
    refine s_iconst (q := 106) 51 rfl ?_
    obtain ⟨c10, h⟩ := h
    refine n_callV (N := mX9_part) (as := [(0, x2), (0, 0)]) (st := []) (q := 109) (d' := 0) 52 rfl uX9_part kX11_371 rfl c10 ?_
    show PW l G 0 mX9_part (0, 0) 0 [(0, (2, x1)), (1, (0, x2)), (2, (0, 0))] [] (n, K, F, E) _
    refine s_aload_n (q := 1) 0 0 rfl rfl ?_
    refine n_getf (q := 4) (jj := 0) 1 9 0 rfl kX9_11 c10 ?_
    refine s_iload_n (q := 5) 2 1 rfl rfl ?_
    refine s_bipush (q := 7) 3 rfl ?_
    obtain ⟨c11, h⟩ := h
    refine n_imul (q := 8) 4 rfl c11 ?_
    refine s_iload_n (q := 9) 5 2 rfl rfl ?_
    obtain ⟨c12, h⟩ := h
    refine n_iadd (q := 10) 6 rfl c12 ?_
    obtain ⟨c13, h⟩ := h
    obtain ⟨c14, h⟩ := h
    refine n_iald (q := 11) 7 rfl c13 c14 ?_
    refine s_iret 8 rfl rfl ?_
    show PW l G 32 mX11_runClause bg 109 [(0, (2, x0)), (1, (2, x1)), (2, (0, x2)), (3, (2, x3)), (4, (0, x4)), (5, (0, x5)), (6, (0, x6))] [(0, E (F x1 0) ((x2 * 6) + 0))] (n, K, F, E) Q
    obtain ⟨h0, h⟩ := h
    by_cases hsw : E (F x1 0) ((x2 * 6) + 0) < 0 ∨ 2 < E (F x1 0) ((x2 * 6) + 0)
    · refine s_tableOut (tgt := 201) 53 rfl hsw rfl ?_
      replace h := h0 hsw
      refine s_aload_n (q := 202) 93 0 rfl rfl ?_
      refine s_aload_n (q := 203) 94 3 rfl rfl ?_
      refine s_iconst (q := 204) 95 rfl ?_
      obtain ⟨c15, h⟩ := h
      obtain ⟨c16, h⟩ := h
      refine n_iald (q := 205) 96 rfl c15 c16 ?_
      refine s_aload_n (q := 206) 97 3 rfl rfl ?_
      refine s_iconst (q := 207) 98 rfl ?_
      obtain ⟨c17, h⟩ := h
      refine n_iald (q := 208) 99 rfl c15 c17 ?_
      obtain ⟨c18, h⟩ := h
      refine PW.pick [0, 1, 2, 3, 4, 5] rfl ?_
      exact n_callV (N := mX11_changeIndex) (as := [(0, E x3 0), (0, E x3 1)]) (st := []) (q := 211) (d' := 1) 100 rfl uX11_changeIndex kX11_244 rfl c18 h
    have gl : 0 ≤ E (F x1 0) ((x2 * 6) + 0) := by omega
    have gh : E (F x1 0) ((x2 * 6) + 0) ≤ 2 := by omega
    clear hsw
    obtain ⟨h0, h⟩ := h
    by_cases hs0 : E (F x1 0) ((x2 * 6) + 0) = 0
    · refine s_tableIn (tgt := 136) (off := 27) 53 rfl ⟨by rw [hs0]; decide, by rw [hs0]; decide⟩ (by rw [hs0]; rfl) rfl ?_
      replace h := h0 hs0
      refine s_aload_n (q := 137) 54 0 rfl rfl ?_
      refine s_aload_n (q := 138) 55 0 rfl rfl ?_
      obtain ⟨c19, h⟩ := h
      refine n_getf (q := 141) (jj := 0) 56 11 0 rfl kX11_10 c19 ?_
      obtain ⟨c20, h⟩ := h
      refine n_getf (q := 144) (jj := 0) 57 1 0 rfl kX11_125 c20 ?_
      refine s_aload_n (q := 145) 58 0 rfl rfl ?_
      refine n_getf (q := 148) (jj := 3) 59 11 3 rfl kX11_27 c19 ?_
      refine s_aload_n (q := 149) 60 3 rfl rfl ?_
      refine s_iconst (q := 150) 61 rfl ?_
      obtain ⟨c21, h⟩ := h
      obtain ⟨c22, h⟩ := h
      refine n_iald (q := 151) 62 rfl c21 c22 ?_
      refine s_aload_n (q := 152) 63 3 rfl rfl ?_
      refine s_iconst (q := 153) 64 rfl ?_
      obtain ⟨c23, h⟩ := h
      refine n_iald (q := 154) 65 rfl c21 c23 ?_
      refine s_aload_n (q := 155) 66 3 rfl rfl ?_
      refine s_iconst (q := 156) 67 rfl ?_
      obtain ⟨c24, h⟩ := h
      refine n_iald (q := 157) 68 rfl c21 c24 ?_
      refine PW.pick [0, 1, 2, 3, 4, 5] rfl ?_
      exact n_callV (N := mX11_comeTo) (as := [(2, F (F x0 0) 0), (2, F x0 3), (0, E x3 0), (0, E x3 1), (0, E x3 2)]) (st := []) (q := 160) (d' := 31) 69 rfl uX11_comeTo kX11_172 rfl c19 h
    clear h0
    replace gl : 1 ≤ E (F x1 0) ((x2 * 6) + 0) := by clear h; omega
    clear hs0
    obtain ⟨h0, h⟩ := h
    by_cases hs0 : E (F x1 0) ((x2 * 6) + 0) = 1
    · refine s_tableIn (tgt := 174) (off := 65) 53 rfl ⟨by rw [hs0]; decide, by rw [hs0]; decide⟩ (by rw [hs0]; rfl) rfl ?_
      replace h := h0 hs0
      refine s_aload_n (q := 175) 76 0 rfl rfl ?_
      refine s_aload_n (q := 176) 77 3 rfl rfl ?_
      refine s_iconst (q := 177) 78 rfl ?_
      obtain ⟨c25, h⟩ := h
      obtain ⟨c26, h⟩ := h
      refine n_iald (q := 178) 79 rfl c25 c26 ?_
      obtain ⟨c27, h⟩ := h
      refine PW.pick [0, 1, 2, 3, 4, 5] rfl ?_
      exact n_callV (N := mX11_strikeOut) (as := [(0, E x3 0)]) (st := []) (q := 181) (d' := 1) 80 rfl uX11_strikeOut kX11_238 rfl c27 h
    clear h0
    replace gl : 2 ≤ E (F x1 0) ((x2 * 6) + 0) := by clear h; omega
    clear hs0
    have h0 := h
    by_cases hs0 : E (F x1 0) ((x2 * 6) + 0) = 2
    · refine s_tableIn (tgt := 186) (off := 77) 53 rfl ⟨by rw [hs0]; decide, by rw [hs0]; decide⟩ (by rw [hs0]; rfl) rfl ?_
      replace h := h0 hs0
      refine s_aload_n (q := 187) 83 0 rfl rfl ?_
      refine s_aload_n (q := 188) 84 3 rfl rfl ?_
      refine s_iconst (q := 189) 85 rfl ?_
      obtain ⟨c28, h⟩ := h
      obtain ⟨c29, h⟩ := h
      refine n_iald (q := 190) 86 rfl c28 c29 ?_
      refine s_aload_n (q := 191) 87 3 rfl rfl ?_
      refine s_iconst (q := 192) 88 rfl ?_
      obtain ⟨c30, h⟩ := h
      refine n_iald (q := 193) 89 rfl c28 c30 ?_
      obtain ⟨c31, h⟩ := h
      refine PW.pick [0, 1, 2, 3, 4, 5] rfl ?_
      exact n_callV (N := mX11_changeWindow) (as := [(0, E x3 0), (0, E x3 1)]) (st := []) (q := 196) (d' := 2) 90 rfl uX11_changeWindow kX11_241 rfl c31 h
    clear h0
    replace gl : 3 ≤ E (F x1 0) ((x2 * 6) + 0) := by clear h; omega
    clear hs0
    clear h
    exfalso
    omega
theorem vX11_runClause_160 {l : Launch} {G : pG} {bg : Nat × Nat} {n : Nat} {K : Int → Nat × Nat} {F E : Int → Int → Int} {Q : Option pV → pM → Prop} (x0 x1 x2 x3 x4 x5 s0 : Int) (h : (K x0).1 = 11 ∧ (K (F x0 12)).1 = 7 ∧ (∀ F1, F1 = pUp F (F x0 12) 4 s0 → ((0 ≤ s0 → (-2147483648 ≤ (F (F x0 12) 3) + 1 ∧ (F (F x0 12) 3) + 1 < 2147483648) ∧ (∀ F2, F2 = pUp F1 (F x0 12) 3 ((F (F x0 12) 3) + 1) → (-2147483648 ≤ x5 + 1 ∧ x5 + 1 < 2147483648) ∧ PW l G 32 mX11_runClause bg 19 [(0, (2, x0)), (1, (2, x1)), (2, (0, x2)), (3, (2, x3)), (4, (0, x4)), (5, (0, x5 + 1))] [] (n, K, F2, E) Q)) ∧ (¬ (0 ≤ s0) → (∀ F3, F3 = pUp F1 (F x0 12) 5 x2 → (-2147483648 ≤ x5 + 1 ∧ x5 + 1 < 2147483648) ∧ PW l G 32 mX11_runClause bg 19 [(0, (2, x0)), (1, (2, x1)), (2, (0, x2)), (3, (2, x3)), (4, (0, x4)), (5, (0, x5 + 1))] [] (n, K, F3, E) Q))))) : PW l G 32 mX11_runClause bg 160 [(0, (2, x0)), (1, (2, x1)), (2, (0, x2)), (3, (2, x3)), (4, (0, x4)), (5, (0, x5))] [(0, s0)] (n, K, F, E) Q := by
  refine s_istore (q := 162) (lv' := [(6, (0, s0)), (0, (2, x0)), (1, (2, x1)), (2, (0, x2)), (3, (2, x3)), (4, (0, x4)), (5, (0, x5))]) 70 rfl rfl ?_
  refine s_aload_n (q := 163) 71 1 rfl rfl ?_
  obtain ⟨c1, h⟩ := h
  refine n_getf (q := 166) (jj := 12) 72 11 12 rfl kX11_83 c1 ?_
  refine s_iload (q := 168) 73 0 rfl rfl ?_
  obtain ⟨c2, h⟩ := h
  refine n_putf (q := 171) (jj := 4) 74 7 4 rfl kX11_392 c2 (Or.inl rfl) ?_
  refine PW.nameF (fun F1 eF1 => ?_)
  replace h := h F1 eF1
  refine s_goto (tgt := 213) 75 rfl rfl ?_
  refine s_iload (q := 215) 102 0 rfl rfl ?_
  refine s_if_ge (q := 218) (tgt := 229) 103 rfl rfl (fun hb => ?_) (fun hb => ?_)
  · skip
    have b3 := hb
    replace h := h.1 hb
    refine s_aload_n (q := 230) 109 1 rfl rfl ?_
    refine n_getf (q := 233) (jj := 12) 110 11 12 rfl kX11_83 c1 ?_
    refine PW.top (b := F x0 12) (by exact (congrFun (congrFun eF1 _) _).trans (pUp_K c2 c1 (by decide))) ?_
    refine s_dup (q := 234) 111 rfl ?_
    refine n_getf (q := 237) (jj := 3) 112 7 3 rfl kX11_219 c2 ?_
    refine PW.top (b := F (F x0 12) 3) (by exact (congrFun (congrFun eF1 _) _).trans (pUp_k (by decide))) ?_
    refine s_iconst (q := 238) 113 rfl ?_
    obtain ⟨c4, h⟩ := h
    refine n_iadd (q := 239) 114 rfl c4 ?_
    refine n_putf (q := 242) (jj := 3) 115 7 3 rfl kX11_219 c2 (Or.inl rfl) ?_
    refine PW.nameF (fun F2 eF2 => ?_)
    replace h := h F2 eF2
    obtain ⟨c5, h⟩ := h
    refine n_iinc (q := 245) (lv' := [(5, (0, x5 + 1)), (6, (0, s0)), (0, (2, x0)), (1, (2, x1)), (2, (0, x2)), (3, (2, x3)), (4, (0, x4))]) 116 6 rfl rfl c5 rfl ?_
    refine s_goto (tgt := 19) 117 rfl rfl ?_
    refine PW.pick [2, 3, 4, 5, 6, 0] rfl ?_
    exact h
  · skip
    have b3 := hb
    replace h := h.2 hb
    refine s_aload_n (q := 219) 104 1 rfl rfl ?_
    refine n_getf (q := 222) (jj := 12) 105 11 12 rfl kX11_83 c1 ?_
    refine PW.top (b := F x0 12) (by exact (congrFun (congrFun eF1 _) _).trans (pUp_K c2 c1 (by decide))) ?_
    refine s_iload_n (q := 223) 106 3 rfl rfl ?_
    refine n_putf (q := 226) (jj := 5) 107 7 5 rfl kX11_212 c2 (Or.inl rfl) ?_
    refine PW.nameF (fun F3 eF3 => ?_)
    replace h := h F3 eF3
    refine s_goto (tgt := 242) 108 rfl rfl ?_
    obtain ⟨c6, h⟩ := h
    refine n_iinc (q := 245) (lv' := [(5, (0, x5 + 1)), (6, (0, s0)), (0, (2, x0)), (1, (2, x1)), (2, (0, x2)), (3, (2, x3)), (4, (0, x4))]) 116 6 rfl rfl c6 rfl ?_
    refine s_goto (tgt := 19) 117 rfl rfl ?_
    refine PW.pick [2, 3, 4, 5, 6, 0] rfl ?_
    exact h
theorem vX11_runClause_181 {l : Launch} {G : pG} {bg : Nat × Nat} {n : Nat} {K : Int → Nat × Nat} {F E : Int → Int → Int} {Q : Option pV → pM → Prop} (x0 x1 x2 x3 x4 x5 s0 : Int) (h : ((0 ≤ s0 → (K x0).1 = 11 ∧ (K (F x0 12)).1 = 7 ∧ (-2147483648 ≤ (F (F x0 12) 3) + 1 ∧ (F (F x0 12) 3) + 1 < 2147483648) ∧ (∀ F1, F1 = pUp F (F x0 12) 3 ((F (F x0 12) 3) + 1) → (-2147483648 ≤ x5 + 1 ∧ x5 + 1 < 2147483648) ∧ PW l G 32 mX11_runClause bg 19 [(0, (2, x0)), (1, (2, x1)), (2, (0, x2)), (3, (2, x3)), (4, (0, x4)), (5, (0, x5 + 1))] [] (n, K, F1, E) Q)) ∧ (¬ (0 ≤ s0) → (K x0).1 = 11 ∧ (K (F x0 12)).1 = 7 ∧ (∀ F2, F2 = pUp F (F x0 12) 5 x2 → (-2147483648 ≤ x5 + 1 ∧ x5 + 1 < 2147483648) ∧ PW l G 32 mX11_runClause bg 19 [(0, (2, x0)), (1, (2, x1)), (2, (0, x2)), (3, (2, x3)), (4, (0, x4)), (5, (0, x5 + 1))] [] (n, K, F2, E) Q)))) : PW l G 32 mX11_runClause bg 181 [(0, (2, x0)), (1, (2, x1)), (2, (0, x2)), (3, (2, x3)), (4, (0, x4)), (5, (0, x5))] [(0, s0)] (n, K, F, E) Q := by
  refine s_istore (q := 183) (lv' := [(6, (0, s0)), (0, (2, x0)), (1, (2, x1)), (2, (0, x2)), (3, (2, x3)), (4, (0, x4)), (5, (0, x5))]) 81 rfl rfl ?_
  refine s_goto (tgt := 213) 82 rfl rfl ?_
  refine s_iload (q := 215) 102 0 rfl rfl ?_
  refine s_if_ge (q := 218) (tgt := 229) 103 rfl rfl (fun hb => ?_) (fun hb => ?_)
  · skip
    have b1 := hb
    replace h := h.1 hb
    refine s_aload_n (q := 230) 109 1 rfl rfl ?_
    obtain ⟨c2, h⟩ := h
    refine n_getf (q := 233) (jj := 12) 110 11 12 rfl kX11_83 c2 ?_
    refine s_dup (q := 234) 111 rfl ?_
    obtain ⟨c3, h⟩ := h
    refine n_getf (q := 237) (jj := 3) 112 7 3 rfl kX11_219 c3 ?_
    refine s_iconst (q := 238) 113 rfl ?_
    obtain ⟨c4, h⟩ := h
    refine n_iadd (q := 239) 114 rfl c4 ?_
    refine n_putf (q := 242) (jj := 3) 115 7 3 rfl kX11_219 c3 (Or.inl rfl) ?_
    refine PW.nameF (fun F1 eF1 => ?_)
    replace h := h F1 eF1
    obtain ⟨c5, h⟩ := h
    refine n_iinc (q := 245) (lv' := [(5, (0, x5 + 1)), (6, (0, s0)), (0, (2, x0)), (1, (2, x1)), (2, (0, x2)), (3, (2, x3)), (4, (0, x4))]) 116 6 rfl rfl c5 rfl ?_
    refine s_goto (tgt := 19) 117 rfl rfl ?_
    refine PW.pick [2, 3, 4, 5, 6, 0] rfl ?_
    exact h
  · skip
    have b1 := hb
    replace h := h.2 hb
    refine s_aload_n (q := 219) 104 1 rfl rfl ?_
    obtain ⟨c6, h⟩ := h
    refine n_getf (q := 222) (jj := 12) 105 11 12 rfl kX11_83 c6 ?_
    refine s_iload_n (q := 223) 106 3 rfl rfl ?_
    obtain ⟨c7, h⟩ := h
    refine n_putf (q := 226) (jj := 5) 107 7 5 rfl kX11_212 c7 (Or.inl rfl) ?_
    refine PW.nameF (fun F2 eF2 => ?_)
    replace h := h F2 eF2
    refine s_goto (tgt := 242) 108 rfl rfl ?_
    obtain ⟨c8, h⟩ := h
    refine n_iinc (q := 245) (lv' := [(5, (0, x5 + 1)), (6, (0, s0)), (0, (2, x0)), (1, (2, x1)), (2, (0, x2)), (3, (2, x3)), (4, (0, x4))]) 116 6 rfl rfl c8 rfl ?_
    refine s_goto (tgt := 19) 117 rfl rfl ?_
    refine PW.pick [2, 3, 4, 5, 6, 0] rfl ?_
    exact h
theorem vX11_runClause_196 {l : Launch} {G : pG} {bg : Nat × Nat} {n : Nat} {K : Int → Nat × Nat} {F E : Int → Int → Int} {Q : Option pV → pM → Prop} (x0 x1 x2 x3 x4 x5 s0 : Int) (h : ((0 ≤ s0 → (K x0).1 = 11 ∧ (K (F x0 12)).1 = 7 ∧ (-2147483648 ≤ (F (F x0 12) 3) + 1 ∧ (F (F x0 12) 3) + 1 < 2147483648) ∧ (∀ F1, F1 = pUp F (F x0 12) 3 ((F (F x0 12) 3) + 1) → (-2147483648 ≤ x5 + 1 ∧ x5 + 1 < 2147483648) ∧ PW l G 32 mX11_runClause bg 19 [(0, (2, x0)), (1, (2, x1)), (2, (0, x2)), (3, (2, x3)), (4, (0, x4)), (5, (0, x5 + 1))] [] (n, K, F1, E) Q)) ∧ (¬ (0 ≤ s0) → (K x0).1 = 11 ∧ (K (F x0 12)).1 = 7 ∧ (∀ F2, F2 = pUp F (F x0 12) 5 x2 → (-2147483648 ≤ x5 + 1 ∧ x5 + 1 < 2147483648) ∧ PW l G 32 mX11_runClause bg 19 [(0, (2, x0)), (1, (2, x1)), (2, (0, x2)), (3, (2, x3)), (4, (0, x4)), (5, (0, x5 + 1))] [] (n, K, F2, E) Q)))) : PW l G 32 mX11_runClause bg 196 [(0, (2, x0)), (1, (2, x1)), (2, (0, x2)), (3, (2, x3)), (4, (0, x4)), (5, (0, x5))] [(0, s0)] (n, K, F, E) Q := by
  refine s_istore (q := 198) (lv' := [(6, (0, s0)), (0, (2, x0)), (1, (2, x1)), (2, (0, x2)), (3, (2, x3)), (4, (0, x4)), (5, (0, x5))]) 91 rfl rfl ?_
  refine s_goto (tgt := 213) 92 rfl rfl ?_
  refine s_iload (q := 215) 102 0 rfl rfl ?_
  refine s_if_ge (q := 218) (tgt := 229) 103 rfl rfl (fun hb => ?_) (fun hb => ?_)
  · skip
    have b1 := hb
    replace h := h.1 hb
    refine s_aload_n (q := 230) 109 1 rfl rfl ?_
    obtain ⟨c2, h⟩ := h
    refine n_getf (q := 233) (jj := 12) 110 11 12 rfl kX11_83 c2 ?_
    refine s_dup (q := 234) 111 rfl ?_
    obtain ⟨c3, h⟩ := h
    refine n_getf (q := 237) (jj := 3) 112 7 3 rfl kX11_219 c3 ?_
    refine s_iconst (q := 238) 113 rfl ?_
    obtain ⟨c4, h⟩ := h
    refine n_iadd (q := 239) 114 rfl c4 ?_
    refine n_putf (q := 242) (jj := 3) 115 7 3 rfl kX11_219 c3 (Or.inl rfl) ?_
    refine PW.nameF (fun F1 eF1 => ?_)
    replace h := h F1 eF1
    obtain ⟨c5, h⟩ := h
    refine n_iinc (q := 245) (lv' := [(5, (0, x5 + 1)), (6, (0, s0)), (0, (2, x0)), (1, (2, x1)), (2, (0, x2)), (3, (2, x3)), (4, (0, x4))]) 116 6 rfl rfl c5 rfl ?_
    refine s_goto (tgt := 19) 117 rfl rfl ?_
    refine PW.pick [2, 3, 4, 5, 6, 0] rfl ?_
    exact h
  · skip
    have b1 := hb
    replace h := h.2 hb
    refine s_aload_n (q := 219) 104 1 rfl rfl ?_
    obtain ⟨c6, h⟩ := h
    refine n_getf (q := 222) (jj := 12) 105 11 12 rfl kX11_83 c6 ?_
    refine s_iload_n (q := 223) 106 3 rfl rfl ?_
    obtain ⟨c7, h⟩ := h
    refine n_putf (q := 226) (jj := 5) 107 7 5 rfl kX11_212 c7 (Or.inl rfl) ?_
    refine PW.nameF (fun F2 eF2 => ?_)
    replace h := h F2 eF2
    refine s_goto (tgt := 242) 108 rfl rfl ?_
    obtain ⟨c8, h⟩ := h
    refine n_iinc (q := 245) (lv' := [(5, (0, x5 + 1)), (6, (0, s0)), (0, (2, x0)), (1, (2, x1)), (2, (0, x2)), (3, (2, x3)), (4, (0, x4))]) 116 6 rfl rfl c8 rfl ?_
    refine s_goto (tgt := 19) 117 rfl rfl ?_
    refine PW.pick [2, 3, 4, 5, 6, 0] rfl ?_
    exact h
theorem vX11_runClause_211 {l : Launch} {G : pG} {bg : Nat × Nat} {n : Nat} {K : Int → Nat × Nat} {F E : Int → Int → Int} {Q : Option pV → pM → Prop} (x0 x1 x2 x3 x4 x5 s0 : Int) (h : ((0 ≤ s0 → (K x0).1 = 11 ∧ (K (F x0 12)).1 = 7 ∧ (-2147483648 ≤ (F (F x0 12) 3) + 1 ∧ (F (F x0 12) 3) + 1 < 2147483648) ∧ (∀ F1, F1 = pUp F (F x0 12) 3 ((F (F x0 12) 3) + 1) → (-2147483648 ≤ x5 + 1 ∧ x5 + 1 < 2147483648) ∧ PW l G 32 mX11_runClause bg 19 [(0, (2, x0)), (1, (2, x1)), (2, (0, x2)), (3, (2, x3)), (4, (0, x4)), (5, (0, x5 + 1))] [] (n, K, F1, E) Q)) ∧ (¬ (0 ≤ s0) → (K x0).1 = 11 ∧ (K (F x0 12)).1 = 7 ∧ (∀ F2, F2 = pUp F (F x0 12) 5 x2 → (-2147483648 ≤ x5 + 1 ∧ x5 + 1 < 2147483648) ∧ PW l G 32 mX11_runClause bg 19 [(0, (2, x0)), (1, (2, x1)), (2, (0, x2)), (3, (2, x3)), (4, (0, x4)), (5, (0, x5 + 1))] [] (n, K, F2, E) Q)))) : PW l G 32 mX11_runClause bg 211 [(0, (2, x0)), (1, (2, x1)), (2, (0, x2)), (3, (2, x3)), (4, (0, x4)), (5, (0, x5))] [(0, s0)] (n, K, F, E) Q := by
  refine s_istore (q := 213) (lv' := [(6, (0, s0)), (0, (2, x0)), (1, (2, x1)), (2, (0, x2)), (3, (2, x3)), (4, (0, x4)), (5, (0, x5))]) 101 rfl rfl ?_
  refine s_iload (q := 215) 102 0 rfl rfl ?_
  refine s_if_ge (q := 218) (tgt := 229) 103 rfl rfl (fun hb => ?_) (fun hb => ?_)
  · skip
    have b1 := hb
    replace h := h.1 hb
    refine s_aload_n (q := 230) 109 1 rfl rfl ?_
    obtain ⟨c2, h⟩ := h
    refine n_getf (q := 233) (jj := 12) 110 11 12 rfl kX11_83 c2 ?_
    refine s_dup (q := 234) 111 rfl ?_
    obtain ⟨c3, h⟩ := h
    refine n_getf (q := 237) (jj := 3) 112 7 3 rfl kX11_219 c3 ?_
    refine s_iconst (q := 238) 113 rfl ?_
    obtain ⟨c4, h⟩ := h
    refine n_iadd (q := 239) 114 rfl c4 ?_
    refine n_putf (q := 242) (jj := 3) 115 7 3 rfl kX11_219 c3 (Or.inl rfl) ?_
    refine PW.nameF (fun F1 eF1 => ?_)
    replace h := h F1 eF1
    obtain ⟨c5, h⟩ := h
    refine n_iinc (q := 245) (lv' := [(5, (0, x5 + 1)), (6, (0, s0)), (0, (2, x0)), (1, (2, x1)), (2, (0, x2)), (3, (2, x3)), (4, (0, x4))]) 116 6 rfl rfl c5 rfl ?_
    refine s_goto (tgt := 19) 117 rfl rfl ?_
    refine PW.pick [2, 3, 4, 5, 6, 0] rfl ?_
    exact h
  · skip
    have b1 := hb
    replace h := h.2 hb
    refine s_aload_n (q := 219) 104 1 rfl rfl ?_
    obtain ⟨c6, h⟩ := h
    refine n_getf (q := 222) (jj := 12) 105 11 12 rfl kX11_83 c6 ?_
    refine s_iload_n (q := 223) 106 3 rfl rfl ?_
    obtain ⟨c7, h⟩ := h
    refine n_putf (q := 226) (jj := 5) 107 7 5 rfl kX11_212 c7 (Or.inl rfl) ?_
    refine PW.nameF (fun F2 eF2 => ?_)
    replace h := h F2 eF2
    refine s_goto (tgt := 242) 108 rfl rfl ?_
    obtain ⟨c8, h⟩ := h
    refine n_iinc (q := 245) (lv' := [(5, (0, x5 + 1)), (6, (0, s0)), (0, (2, x0)), (1, (2, x1)), (2, (0, x2)), (3, (2, x3)), (4, (0, x4))]) 116 6 rfl rfl c8 rfl ?_
    refine s_goto (tgt := 19) 117 rfl rfl ?_
    refine PW.pick [2, 3, 4, 5, 6, 0] rfl ?_
    exact h
theorem vX11_costOnPaper_0 {l : Launch} {G : pG} {bg : Nat × Nat} {n : Nat} {K : Int → Nat × Nat} {F E : Int → Int → Int} {Q : Option pV → pM → Prop} (x0 x1 x2 x3 x4 x5 : Int) (h : (K x0).1 = 11 ∧ (K (F x0 0)).1 = 1 ∧ (K (F (F x0 0) 1)).1 = 20 ∧ ((0 : Int) ≤ 2 ∧ 2 < ((K (F (F x0 0) 1)).2 : Int)) ∧ (K (F x0 10)).1 = 6 ∧ (∀ F1, F1 = pUp F (F x0 10) 3 x2 → (∀ F2, F2 = pUp F1 (F x0 10) 5 1000000000 → (∀ F3, F3 = pUp F2 (F x0 10) 4 (-1) → (0 : Int) ≤ F (F x0 10) 1 ∧ (K (F (F x0 10) 1)).1 = 20 ∧ ((0 : Int) ≤ 7 ∧ 7 < ((K (F (F x0 10) 1)).2 : Int)) ∧ (∀ E4, E4 = pUp E (F (F x0 10) 1) 7 (E (F (F x0 0) 1) 2) → PC l G 1 mX6_setTuple (0, 0) [(2, F x0 10), (2, x1), (0, x3), (0, x4), (0, x5)] (n, K, F3, E4) (fun r μ => PW l G 31 mX11_costOnPaper bg 34 [(0, (2, x0))] (r.toList ++ []) μ Q)))))) : PW l G 31 mX11_costOnPaper bg 0 [(0, (2, x0)), (1, (2, x1)), (2, (2, x2)), (3, (0, x3)), (4, (0, x4)), (5, (0, x5))] [] (n, K, F, E) Q := by
  refine s_aload_n (q := 1) 0 0 rfl rfl ?_
  obtain ⟨c1, h⟩ := h
  refine n_getf (q := 4) (jj := 10) 1 11 10 rfl kX11_69 c1 ?_
  refine s_aload_n (q := 5) 2 2 rfl rfl ?_
  refine s_aload_n (q := 6) 3 0 rfl rfl ?_
  refine n_getf (q := 9) (jj := 0) 4 11 0 rfl kX11_10 c1 ?_
  obtain ⟨c2, h⟩ := h
  refine n_getf (q := 12) (jj := 1) 5 1 1 rfl kX11_154 c2 ?_
  refine s_iconst (q := 13) 6 rfl ?_
  obtain ⟨c3, h⟩ := h
  obtain ⟨c4, h⟩ := h
  refine n_iald (q := 14) 7 rfl c3 c4 ?_
  refine s_ldcw (q := 17) (x := 1000000000) 8 rfl kX11_286 ?_
  refine s_null (q := 18) 9 rfl ?_
  obtain ⟨c5, h⟩ := h
  refine n_callV (N := mX6_setTerms) (as := [(2, x2), (0, E (F (F x0 0) 1) 2), (0, 1000000000), (2, (-1))]) (st := []) (q := 21) (d' := 0) 10 rfl uX6_setTerms kX11_336 rfl c5 ?_
  show PW l G 0 mX6_setTerms (0, 0) 0 [(0, (2, F x0 10)), (1, (2, x2)), (2, (0, E (F (F x0 0) 1) 2)), (3, (0, 1000000000)), (4, (2, (-1)))] [] (n, K, F, E) _
  refine s_aload_n (q := 1) 0 0 rfl rfl ?_
  refine s_aload_n (q := 2) 1 1 rfl rfl ?_
  refine n_putf (q := 5) (jj := 3) 2 6 3 rfl kX6_29 c5 (Or.inr (Or.inr (Or.inr (Or.inl ⟨_, rfl⟩)))) ?_
  refine PW.nameF (fun F1 eF1 => ?_)
  replace h := h F1 eF1
  refine s_aload_n (q := 6) 3 0 rfl rfl ?_
  refine s_iload_n (q := 7) 4 3 rfl rfl ?_
  refine n_putf (q := 10) (jj := 5) 5 6 5 rfl kX6_36 c5 (Or.inl rfl) ?_
  refine PW.nameF (fun F2 eF2 => ?_)
  replace h := h F2 eF2
  refine s_aload_n (q := 11) 6 0 rfl rfl ?_
  refine s_aload (q := 13) 7 4 rfl rfl ?_
  refine n_putf (q := 16) (jj := 4) 8 6 4 rfl kX6_33 c5 (Or.inr (Or.inr (Or.inr (Or.inr ⟨_, rfl⟩)))) ?_
  refine PW.nameF (fun F3 eF3 => ?_)
  replace h := h F3 eF3
  refine s_aload_n (q := 17) 9 0 rfl rfl ?_
  refine n_getf (q := 20) (jj := 1) 10 6 1 rfl kX6_18 c5 ?_
  refine PW.top (b := F (F x0 10) 1) (by refine (congrFun (congrFun eF3 _) _).trans ((pUp_k (by decide)).trans ?_); refine (congrFun (congrFun eF2 _) _).trans ((pUp_k (by decide)).trans ?_); exact (congrFun (congrFun eF1 _) _).trans (pUp_k (by decide))) ?_
  refine s_bipush (q := 22) 11 rfl ?_
  refine s_iload_n (q := 23) 12 2 rfl rfl ?_
  obtain ⟨c6, h⟩ := h
  obtain ⟨c7, h⟩ := h
  obtain ⟨c8, h⟩ := h
  refine n_iast (q := 24) 13 rfl c6 c7 c8 ?_
  refine PW.nameE (fun E4 eE4 => ?_)
  replace h := h E4 eE4
  refine s_vret 14 rfl rfl ?_
  show PW l G 31 mX11_costOnPaper bg 21 [(0, (2, x0)), (1, (2, x1)), (2, (2, x2)), (3, (0, x3)), (4, (0, x4)), (5, (0, x5))] [] (n, K, F3, E4) Q
  refine s_aload_n (q := 22) 11 0 rfl rfl ?_
  refine n_getf (q := 25) (jj := 10) 12 11 10 rfl kX11_69 c1 ?_
  refine PW.top (b := F x0 10) (by refine (congrFun (congrFun eF3 _) _).trans ((pUp_K c5 c1 (by decide)).trans ?_); refine (congrFun (congrFun eF2 _) _).trans ((pUp_K c5 c1 (by decide)).trans ?_); exact (congrFun (congrFun eF1 _) _).trans (pUp_K c5 c1 (by decide))) ?_
  refine s_aload_n (q := 26) 13 1 rfl rfl ?_
  refine s_iload_n (q := 27) 14 3 rfl rfl ?_
  refine s_iload (q := 29) 15 4 rfl rfl ?_
  refine s_iload (q := 31) 16 5 rfl rfl ?_
  refine PW.pick [0] rfl ?_
  exact n_callV (N := mX6_setTuple) (as := [(2, x1), (0, x3), (0, x4), (0, x5)]) (st := []) (q := 34) (d' := 1) 17 rfl uX6_setTuple kX11_340 rfl c5 h
theorem vX11_costOnPaper_34 {l : Launch} {G : pG} {bg : Nat × Nat} {n : Nat} {K : Int → Nat × Nat} {F E : Int → Int → Int} {Q : Option pV → pM → Prop} (x0 : Int) (h : (K x0).1 = 11 ∧ (K (F x0 10)).1 = 6 ∧ PC l G 30 mX6_pass (0, 0) [(2, F x0 10), (0, 0), (0, 0)] (n, K, F, E) (fun r μ => PW l G 31 mX11_costOnPaper bg 43 [(0, (2, x0))] (r.toList ++ []) μ Q)) : PW l G 31 mX11_costOnPaper bg 34 [(0, (2, x0))] [] (n, K, F, E) Q := by
  refine s_aload_n (q := 35) 18 0 rfl rfl ?_
  obtain ⟨c1, h⟩ := h
  refine n_getf (q := 38) (jj := 10) 19 11 10 rfl kX11_69 c1 ?_
  refine s_iconst (q := 39) 20 rfl ?_
  refine s_iconst (q := 40) 21 rfl ?_
  obtain ⟨c2, h⟩ := h
  refine PW.pick [0] rfl ?_
  exact n_callW (N := mX6_pass) (as := [(0, 0), (0, 0)]) (st := []) (q := 43) (d' := 30) 22 rfl uX6_pass kX11_348 rfl c2 h
theorem vX11_costOnPaper_43 {l : Launch} {G : pG} {bg : Nat × Nat} {n : Nat} {K : Int → Nat × Nat} {F E : Int → Int → Int} {Q : Option pV → pM → Prop} (x0 : Int) (h : (K x0).1 = 11 ∧ (K (F x0 10)).1 = 6 ∧ Q (some (0, F (F x0 10) 15)) (n, K, F, E)) : PW l G 31 mX11_costOnPaper bg 43 [(0, (2, x0))] [] (n, K, F, E) Q := by
  refine s_aload_n (q := 44) 23 0 rfl rfl ?_
  obtain ⟨c1, h⟩ := h
  refine n_getf (q := 47) (jj := 10) 24 11 10 rfl kX11_69 c1 ?_
  obtain ⟨c2, h⟩ := h
  refine n_getf (q := 50) (jj := 15) 25 6 15 rfl kX11_395 c2 ?_
  exact s_iret 26 rfl rfl h
theorem vX11_findCheapest_0 {l : Launch} {G : pG} {bg : Nat × Nat} {n : Nat} {K : Int → Nat × Nat} {F E : Int → Int → Int} {Q : Option pV → pM → Prop} (x0 x1 x2 x3 : Int) (h : (K x0).1 = 11 ∧ (K (F x0 0)).1 = 1 ∧ (K (F (F x0 0) 0)).1 = 0 ∧ (K (F (F (F x0 0) 0) 0)).1 = 20 ∧ ((0 : Int) ≤ 0 ∧ 0 < ((K (F (F (F x0 0) 0) 0)).2 : Int)) ∧ PW l G 31 mX11_findCheapest bg 21 [(0, (2, x0)), (1, (0, x1)), (2, (0, x2)), (3, (0, x3)), (4, (0, E (F (F (F x0 0) 0) 0) 0)), (5, (2, F x0 15)), (6, (0, 0))] [] (n, K, F, E) Q) : PW l G 31 mX11_findCheapest bg 0 [(0, (2, x0)), (1, (0, x1)), (2, (0, x2)), (3, (0, x3))] [] (n, K, F, E) Q := by
  refine s_aload_n (q := 1) 0 0 rfl rfl ?_
  obtain ⟨c1, h⟩ := h
  refine n_getf (q := 4) (jj := 0) 1 11 0 rfl kX11_10 c1 ?_
  obtain ⟨c2, h⟩ := h
  refine n_getf (q := 7) (jj := 0) 2 1 0 rfl kX11_125 c2 ?_
  obtain ⟨c3, h⟩ := h
  refine n_callV (N := mX0_operators) (as := []) (st := []) (q := 10) (d' := 0) 3 rfl uX0_operators kX11_279 rfl c3 ?_
  show PW l G 0 mX0_operators (0, 0) 0 [(0, (2, F (F x0 0) 0))] [] (n, K, F, E) _
  refine s_aload_n (q := 1) 0 0 rfl rfl ?_
  refine n_getf (q := 4) (jj := 0) 1 0 0 rfl kX0_11 c3 ?_
  refine s_iconst (q := 5) 2 rfl ?_
  obtain ⟨c4, h⟩ := h
  obtain ⟨c5, h⟩ := h
  refine n_iald (q := 6) 3 rfl c4 c5 ?_
  refine s_iret 4 rfl rfl ?_
  show PW l G 31 mX11_findCheapest bg 10 [(0, (2, x0)), (1, (0, x1)), (2, (0, x2)), (3, (0, x3))] [(0, E (F (F (F x0 0) 0) 0) 0)] (n, K, F, E) Q
  refine s_istore (q := 12) (lv' := [(4, (0, E (F (F (F x0 0) 0) 0) 0)), (0, (2, x0)), (1, (0, x1)), (2, (0, x2)), (3, (0, x3))]) 4 rfl rfl ?_
  refine s_aload_n (q := 13) 5 1 rfl rfl ?_
  refine n_getf (q := 16) (jj := 15) 6 11 15 rfl kX11_94 c1 ?_
  refine s_astore (q := 18) (lv' := [(5, (2, F x0 15)), (4, (0, E (F (F (F x0 0) 0) 0) 0)), (0, (2, x0)), (1, (0, x1)), (2, (0, x2)), (3, (0, x3))]) 7 rfl rfl ?_
  refine s_iconst (q := 19) 8 rfl ?_
  refine s_istore (q := 21) (lv' := [(6, (0, 0)), (5, (2, F x0 15)), (4, (0, E (F (F (F x0 0) 0) 0) 0)), (0, (2, x0)), (1, (0, x1)), (2, (0, x2)), (3, (0, x3))]) 9 rfl rfl ?_
  refine PW.pick [3, 4, 5, 6, 2, 1, 0] rfl ?_
  exact h
theorem vX11_findCheapest_21 {l : Launch} {G : pG} {bg : Nat × Nat} {n : Nat} {K : Int → Nat × Nat} {F E : Int → Int → Int} {Q : Option pV → pM → Prop} (x0 x1 x2 x3 x4 x5 x6 : Int) (h : ((x4 ≤ x6 → (K x0).1 = 11 ∧ (K (F x0 0)).1 = 1 ∧ PC l G 0 mX1_lawInForce (0, 0) [(2, F x0 0)] (n, K, F, E) (fun r μ => PW l G 31 mX11_findCheapest bg 57 [(0, (2, x0)), (1, (0, x1)), (2, (0, x2)), (3, (0, x3)), (4, (0, x4)), (5, (2, x5)), (6, (0, 1000000000))] (r.toList ++ [(2, F x0 10)]) μ Q)) ∧ (¬ (x4 ≤ x6) → (0 : Int) ≤ x5 ∧ (K x5).1 = 20 ∧ ((0 : Int) ≤ x6 ∧ x6 < ((K x5).2 : Int)) ∧ (∀ E1, E1 = pUp E x5 x6 x6 → (-2147483648 ≤ x6 + 1 ∧ x6 + 1 < 2147483648) ∧ PW l G 31 mX11_findCheapest bg 21 [(0, (2, x0)), (1, (0, x1)), (2, (0, x2)), (3, (0, x3)), (4, (0, x4)), (5, (2, x5)), (6, (0, x6 + 1))] [] (n, K, F, E1) Q)))) : PW l G 31 mX11_findCheapest bg 21 [(0, (2, x0)), (1, (0, x1)), (2, (0, x2)), (3, (0, x3)), (4, (0, x4)), (5, (2, x5)), (6, (0, x6))] [] (n, K, F, E) Q := by
  refine s_iload (q := 23) 10 6 rfl rfl ?_
  refine s_iload (q := 25) 11 4 rfl rfl ?_
  refine s_icmp_ge (q := 28) (tgt := 41) 12 rfl rfl (fun hb => ?_) (fun hb => ?_)
  · skip
    have b1 := hb
    replace h := h.1 hb
    refine s_ldcw (q := 44) (x := 1000000000) 19 rfl kX11_286 ?_
    refine s_istore (q := 46) (lv' := [(6, (0, 1000000000)), (0, (2, x0)), (1, (0, x1)), (2, (0, x2)), (3, (0, x3)), (4, (0, x4)), (5, (2, x5))]) 20 rfl rfl ?_
    refine s_aload_n (q := 47) 21 1 rfl rfl ?_
    obtain ⟨c2, h⟩ := h
    refine n_getf (q := 50) (jj := 10) 22 11 10 rfl kX11_69 c2 ?_
    refine s_aload_n (q := 51) 23 1 rfl rfl ?_
    refine n_getf (q := 54) (jj := 0) 24 11 0 rfl kX11_10 c2 ?_
    obtain ⟨c3, h⟩ := h
    refine PW.pick [1, 2, 3, 4, 5, 6, 0] rfl ?_
    exact n_callV (N := mX1_lawInForce) (as := []) (st := [(2, F x0 10)]) (q := 57) (d' := 0) 25 rfl uX1_lawInForce kX11_270 rfl c3 h
  · skip
    have b1 := hb
    replace h := h.2 hb
    refine s_aload (q := 30) 13 5 rfl rfl ?_
    refine s_iload (q := 32) 14 6 rfl rfl ?_
    refine s_iload (q := 34) 15 6 rfl rfl ?_
    obtain ⟨c4, h⟩ := h
    obtain ⟨c5, h⟩ := h
    obtain ⟨c6, h⟩ := h
    refine n_iast (q := 35) 16 rfl c4 c5 c6 ?_
    refine PW.nameE (fun E1 eE1 => ?_)
    replace h := h E1 eE1
    obtain ⟨c7, h⟩ := h
    refine n_iinc (q := 38) (lv' := [(6, (0, x6 + 1)), (0, (2, x0)), (1, (0, x1)), (2, (0, x2)), (3, (0, x3)), (4, (0, x4)), (5, (2, x5))]) 17 6 rfl rfl c7 rfl ?_
    refine s_goto (tgt := 21) 18 rfl rfl ?_
    refine PW.pick [1, 2, 3, 4, 5, 6, 0] rfl ?_
    exact h
theorem vX11_findCheapest_57 {l : Launch} {G : pG} {bg : Nat × Nat} {n : Nat} {K : Int → Nat × Nat} {F E : Int → Int → Int} {Q : Option pV → pM → Prop} (x0 x1 x2 x3 x4 x5 x6 s0 s1 : Int) (h : (K x0).1 = 11 ∧ (K (F x0 0)).1 = 1 ∧ (K (F (F x0 0) 1)).1 = 20 ∧ ((0 : Int) ≤ 2 ∧ 2 < ((K (F (F x0 0) 1)).2 : Int)) ∧ (K s1).1 = 6 ∧ (∀ F1, F1 = pUp F s1 3 s0 → (∀ F2, F2 = pUp F1 s1 5 1000000000 → (∀ F3, F3 = pUp F2 s1 4 x5 → (0 : Int) ≤ F s1 1 ∧ (K (F s1 1)).1 = 20 ∧ ((0 : Int) ≤ 7 ∧ 7 < ((K (F s1 1)).2 : Int)) ∧ (∀ E4, E4 = pUp E (F s1 1) 7 (E (F (F x0 0) 1) 2) → PW l G 31 mX11_findCheapest bg 80 [(0, (2, x0)), (1, (0, x1)), (2, (0, x2)), (3, (0, x3)), (4, (0, x4)), (5, (2, x5)), (6, (0, x6)), (7, (0, 1)), (8, (0, 0))] [] (n, K, F3, E4) Q))))) : PW l G 31 mX11_findCheapest bg 57 [(0, (2, x0)), (1, (0, x1)), (2, (0, x2)), (3, (0, x3)), (4, (0, x4)), (5, (2, x5)), (6, (0, x6))] [(2, s0), (2, s1)] (n, K, F, E) Q := by
  refine s_aload_n (q := 58) 26 0 rfl rfl ?_
  obtain ⟨c1, h⟩ := h
  refine n_getf (q := 61) (jj := 0) 27 11 0 rfl kX11_10 c1 ?_
  obtain ⟨c2, h⟩ := h
  refine n_getf (q := 64) (jj := 1) 28 1 1 rfl kX11_154 c2 ?_
  refine s_iconst (q := 65) 29 rfl ?_
  obtain ⟨c3, h⟩ := h
  obtain ⟨c4, h⟩ := h
  refine n_iald (q := 66) 30 rfl c3 c4 ?_
  refine s_ldcw (q := 69) (x := 1000000000) 31 rfl kX11_286 ?_
  refine s_aload (q := 71) 32 5 rfl rfl ?_
  obtain ⟨c5, h⟩ := h
  refine n_callV (N := mX6_setTerms) (as := [(2, s0), (0, E (F (F x0 0) 1) 2), (0, 1000000000), (2, x5)]) (st := []) (q := 74) (d' := 0) 33 rfl uX6_setTerms kX11_336 rfl c5 ?_
  show PW l G 0 mX6_setTerms (0, 0) 0 [(0, (2, s1)), (1, (2, s0)), (2, (0, E (F (F x0 0) 1) 2)), (3, (0, 1000000000)), (4, (2, x5))] [] (n, K, F, E) _
  refine s_aload_n (q := 1) 0 0 rfl rfl ?_
  refine s_aload_n (q := 2) 1 1 rfl rfl ?_
  refine n_putf (q := 5) (jj := 3) 2 6 3 rfl kX6_29 c5 (Or.inr (Or.inr (Or.inr (Or.inl ⟨_, rfl⟩)))) ?_
  refine PW.nameF (fun F1 eF1 => ?_)
  replace h := h F1 eF1
  refine s_aload_n (q := 6) 3 0 rfl rfl ?_
  refine s_iload_n (q := 7) 4 3 rfl rfl ?_
  refine n_putf (q := 10) (jj := 5) 5 6 5 rfl kX6_36 c5 (Or.inl rfl) ?_
  refine PW.nameF (fun F2 eF2 => ?_)
  replace h := h F2 eF2
  refine s_aload_n (q := 11) 6 0 rfl rfl ?_
  refine s_aload (q := 13) 7 4 rfl rfl ?_
  refine n_putf (q := 16) (jj := 4) 8 6 4 rfl kX6_33 c5 (Or.inr (Or.inr (Or.inr (Or.inr ⟨_, rfl⟩)))) ?_
  refine PW.nameF (fun F3 eF3 => ?_)
  replace h := h F3 eF3
  refine s_aload_n (q := 17) 9 0 rfl rfl ?_
  refine n_getf (q := 20) (jj := 1) 10 6 1 rfl kX6_18 c5 ?_
  refine PW.top (b := F s1 1) (by refine (congrFun (congrFun eF3 _) _).trans ((pUp_k (by decide)).trans ?_); refine (congrFun (congrFun eF2 _) _).trans ((pUp_k (by decide)).trans ?_); exact (congrFun (congrFun eF1 _) _).trans (pUp_k (by decide))) ?_
  refine s_bipush (q := 22) 11 rfl ?_
  refine s_iload_n (q := 23) 12 2 rfl rfl ?_
  obtain ⟨c6, h⟩ := h
  obtain ⟨c7, h⟩ := h
  obtain ⟨c8, h⟩ := h
  refine n_iast (q := 24) 13 rfl c6 c7 c8 ?_
  refine PW.nameE (fun E4 eE4 => ?_)
  replace h := h E4 eE4
  refine s_vret 14 rfl rfl ?_
  show PW l G 31 mX11_findCheapest bg 74 [(0, (2, x0)), (1, (0, x1)), (2, (0, x2)), (3, (0, x3)), (4, (0, x4)), (5, (2, x5)), (6, (0, x6))] [] (n, K, F3, E4) Q
  refine s_iconst (q := 75) 34 rfl ?_
  refine s_istore (q := 77) (lv' := [(7, (0, 1)), (0, (2, x0)), (1, (0, x1)), (2, (0, x2)), (3, (0, x3)), (4, (0, x4)), (5, (2, x5)), (6, (0, x6))]) 35 rfl rfl ?_
  refine s_iconst (q := 78) 36 rfl ?_
  refine s_istore (q := 80) (lv' := [(8, (0, 0)), (7, (0, 1)), (0, (2, x0)), (1, (0, x1)), (2, (0, x2)), (3, (0, x3)), (4, (0, x4)), (5, (2, x5)), (6, (0, x6))]) 37 rfl rfl ?_
  refine PW.pick [2, 3, 4, 5, 6, 7, 8, 1, 0] rfl ?_
  exact h
theorem vX11_findCheapest_80 {l : Launch} {G : pG} {bg : Nat × Nat} {n : Nat} {K : Int → Nat × Nat} {F E : Int → Int → Int} {Q : Option pV → pM → Prop} (x0 x1 x2 x3 x4 x5 x6 x7 x8 : Int) (h : ((24 ≤ x8 → Q (some (0, x6)) (n, K, F, E)) ∧ (¬ (24 ≤ x8) → ((x7 = 0 → Q (some (0, x6)) (n, K, F, E)) ∧ (¬ (x7 = 0) → (K x0).1 = 11 ∧ (K (F x0 0)).1 = 1 ∧ (K (F x0 10)).1 = 6 ∧ PC l G 1 mX6_setTuple (0, 0) [(2, F x0 10), (2, F (F x0 0) 0), (0, x1), (0, x2), (0, x3)] (n, K, F, E) (fun r μ => PW l G 31 mX11_findCheapest bg 109 [(0, (2, x0)), (1, (0, x1)), (2, (0, x2)), (3, (0, x3)), (4, (0, x4)), (5, (2, x5)), (6, (0, x6)), (8, (0, x8))] (r.toList ++ []) μ Q)))))) : PW l G 31 mX11_findCheapest bg 80 [(0, (2, x0)), (1, (0, x1)), (2, (0, x2)), (3, (0, x3)), (4, (0, x4)), (5, (2, x5)), (6, (0, x6)), (7, (0, x7)), (8, (0, x8))] [] (n, K, F, E) Q := by
  refine s_iload (q := 82) 38 8 rfl rfl ?_
  refine s_bipush (q := 84) 39 rfl ?_
  refine s_icmp_ge (q := 87) (tgt := 167) 40 rfl rfl (fun hb => ?_) (fun hb => ?_)
  · skip
    have b1 := hb
    replace h := h.1 hb
    refine s_iload (q := 169) 79 6 rfl rfl ?_
    exact s_iret 80 rfl rfl h
  · skip
    have b1 := hb
    replace h := h.2 hb
    refine s_iload (q := 89) 41 7 rfl rfl ?_
    refine s_if_eq (q := 92) (tgt := 167) 42 rfl rfl (fun hb => ?_) (fun hb => ?_)
    · skip
      have b2 := hb
      replace h := h.1 hb
      refine s_iload (q := 169) 79 6 rfl rfl ?_
      exact s_iret 80 rfl rfl h
    · skip
      have b2 := hb
      replace h := h.2 hb
      refine s_aload_n (q := 93) 43 0 rfl rfl ?_
      obtain ⟨c3, h⟩ := h
      refine n_getf (q := 96) (jj := 10) 44 11 10 rfl kX11_69 c3 ?_
      refine s_aload_n (q := 97) 45 0 rfl rfl ?_
      refine n_getf (q := 100) (jj := 0) 46 11 0 rfl kX11_10 c3 ?_
      obtain ⟨c4, h⟩ := h
      refine n_getf (q := 103) (jj := 0) 47 1 0 rfl kX11_125 c4 ?_
      refine s_iload_n (q := 104) 48 1 rfl rfl ?_
      refine s_iload_n (q := 105) 49 2 rfl rfl ?_
      refine s_iload_n (q := 106) 50 3 rfl rfl ?_
      obtain ⟨c5, h⟩ := h
      refine PW.pick [0, 1, 2, 3, 4, 5, 6, 8] rfl ?_
      exact n_callV (N := mX6_setTuple) (as := [(2, F (F x0 0) 0), (0, x1), (0, x2), (0, x3)]) (st := []) (q := 109) (d' := 1) 51 rfl uX6_setTuple kX11_340 rfl c5 h
theorem vX11_findCheapest_109 {l : Launch} {G : pG} {bg : Nat × Nat} {n : Nat} {K : Int → Nat × Nat} {F E : Int → Int → Int} {Q : Option pV → pM → Prop} (x0 x1 x2 x3 x4 x5 x6 x8 : Int) (h : (K x0).1 = 11 ∧ (K (F x0 10)).1 = 6 ∧ PC l G 30 mX6_pass (0, 0) [(2, F x0 10), (0, 0), (0, 0)] (n, K, F, E) (fun r μ => PW l G 31 mX11_findCheapest bg 118 [(0, (2, x0)), (1, (0, x1)), (2, (0, x2)), (3, (0, x3)), (4, (0, x4)), (5, (2, x5)), (6, (0, x6)), (8, (0, x8))] (r.toList ++ []) μ Q)) : PW l G 31 mX11_findCheapest bg 109 [(0, (2, x0)), (1, (0, x1)), (2, (0, x2)), (3, (0, x3)), (4, (0, x4)), (5, (2, x5)), (6, (0, x6)), (8, (0, x8))] [] (n, K, F, E) Q := by
  refine s_aload_n (q := 110) 52 0 rfl rfl ?_
  obtain ⟨c1, h⟩ := h
  refine n_getf (q := 113) (jj := 10) 53 11 10 rfl kX11_69 c1 ?_
  refine s_iconst (q := 114) 54 rfl ?_
  refine s_iconst (q := 115) 55 rfl ?_
  obtain ⟨c2, h⟩ := h
  refine PW.pick [0, 1, 2, 3, 4, 5, 6, 7] rfl ?_
  exact n_callW (N := mX6_pass) (as := [(0, 0), (0, 0)]) (st := []) (q := 118) (d' := 30) 56 rfl uX6_pass kX11_348 rfl c2 h
theorem vX11_findCheapest_118 {l : Launch} {G : pG} {bg : Nat × Nat} {n : Nat} {K : Int → Nat × Nat} {F E : Int → Int → Int} {Q : Option pV → pM → Prop} (x0 x1 x2 x3 x4 x5 x6 x8 : Int) (h : (K x0).1 = 11 ∧ (K (F x0 10)).1 = 6 ∧ ((x6 ≤ F (F x0 10) 15 → PC l G 1 mX11_nextOrder (0, 0) [(2, x5), (0, x4)] (n, K, F, E) (fun r μ => PW l G 31 mX11_findCheapest bg 159 [(0, (2, x0)), (1, (0, x1)), (2, (0, x2)), (3, (0, x3)), (4, (0, x4)), (5, (2, x5)), (6, (0, x6)), (8, (0, x8))] (r.toList ++ []) μ Q)) ∧ (¬ (x6 ≤ F (F x0 10) 15) → (0 : Int) ≤ x5 ∧ (K x5).1 = 20 ∧ (0 : Int) ≤ F x0 14 ∧ (K (F x0 14)).1 = 20 ∧ ((0 : Int) ≤ 0 ∧ (0 : Int) ≤ 0 ∧ (0 : Int) ≤ x4 ∧ 0 + x4 ≤ ((K x5).2 : Int) ∧ 0 + x4 ≤ ((K (F x0 14)).2 : Int)) ∧ (∀ E1, E1 = pRow E (F x0 14) (pCpy E x5 0 (F x0 14) 0 x4) → PC l G 1 mX11_nextOrder (0, 0) [(2, x5), (0, x4)] (n, K, F, E1) (fun r μ => PW l G 31 mX11_findCheapest bg 159 [(0, (2, x0)), (1, (0, x1)), (2, (0, x2)), (3, (0, x3)), (4, (0, x4)), (5, (2, x5)), (6, (0, F (F x0 10) 15)), (8, (0, x8))] (r.toList ++ []) μ Q))))) : PW l G 31 mX11_findCheapest bg 118 [(0, (2, x0)), (1, (0, x1)), (2, (0, x2)), (3, (0, x3)), (4, (0, x4)), (5, (2, x5)), (6, (0, x6)), (8, (0, x8))] [] (n, K, F, E) Q := by
  refine s_aload_n (q := 119) 57 0 rfl rfl ?_
  obtain ⟨c1, h⟩ := h
  refine n_getf (q := 122) (jj := 10) 58 11 10 rfl kX11_69 c1 ?_
  obtain ⟨c2, h⟩ := h
  refine n_getf (q := 125) (jj := 15) 59 6 15 rfl kX11_395 c2 ?_
  refine s_iload (q := 127) 60 6 rfl rfl ?_
  refine s_icmp_ge (q := 130) (tgt := 152) 61 rfl rfl (fun hb => ?_) (fun hb => ?_)
  · skip
    have b3 := hb
    replace h := h.1 hb
    refine s_aload (q := 154) 73 5 rfl rfl ?_
    refine s_iload (q := 156) 74 4 rfl rfl ?_
    refine PW.pick [0, 1, 2, 3, 4, 5, 6, 7] rfl ?_
    exact n_callS (N := mX11_nextOrder) (as := [(2, x5), (0, x4)]) (st := []) (q := 159) (d' := 1) 75 rfl uX11_nextOrder kX11_404 rfl h
  · skip
    have b3 := hb
    replace h := h.2 hb
    refine s_aload_n (q := 131) 62 0 rfl rfl ?_
    refine n_getf (q := 134) (jj := 10) 63 11 10 rfl kX11_69 c1 ?_
    refine n_getf (q := 137) (jj := 15) 64 6 15 rfl kX11_395 c2 ?_
    refine s_istore (q := 139) (lv' := [(6, (0, F (F x0 10) 15)), (0, (2, x0)), (1, (0, x1)), (2, (0, x2)), (3, (0, x3)), (4, (0, x4)), (5, (2, x5)), (8, (0, x8))]) 65 rfl rfl ?_
    refine s_aload (q := 141) 66 6 rfl rfl ?_
    refine s_iconst (q := 142) 67 rfl ?_
    refine s_aload_n (q := 143) 68 1 rfl rfl ?_
    refine n_getf (q := 146) (jj := 14) 69 11 14 rfl kX11_91 c1 ?_
    refine s_iconst (q := 147) 70 rfl ?_
    refine s_iload (q := 149) 71 5 rfl rfl ?_
    obtain ⟨c4, h⟩ := h
    obtain ⟨c5, h⟩ := h
    obtain ⟨c6, h⟩ := h
    obtain ⟨c7, h⟩ := h
    obtain ⟨c8, h⟩ := h
    refine n_copy (q := 152) 72 rfl kX11_398 c4 c5 c6 c7 c8 ?_
    refine PW.nameE (fun E1 eE1 => ?_)
    replace h := h E1 eE1
    refine s_aload (q := 154) 73 6 rfl rfl ?_
    refine s_iload (q := 156) 74 5 rfl rfl ?_
    refine PW.pick [1, 2, 3, 4, 5, 6, 0, 7] rfl ?_
    exact n_callS (N := mX11_nextOrder) (as := [(2, x5), (0, x4)]) (st := []) (q := 159) (d' := 1) 75 rfl uX11_nextOrder kX11_404 rfl h
theorem vX11_findCheapest_159 {l : Launch} {G : pG} {bg : Nat × Nat} {n : Nat} {K : Int → Nat × Nat} {F E : Int → Int → Int} {Q : Option pV → pM → Prop} (x0 x1 x2 x3 x4 x5 x6 x8 s0 : Int) (h : (-2147483648 ≤ x8 + 1 ∧ x8 + 1 < 2147483648) ∧ PW l G 31 mX11_findCheapest bg 80 [(0, (2, x0)), (1, (0, x1)), (2, (0, x2)), (3, (0, x3)), (4, (0, x4)), (5, (2, x5)), (6, (0, x6)), (7, (0, s0)), (8, (0, x8 + 1))] [] (n, K, F, E) Q) : PW l G 31 mX11_findCheapest bg 159 [(0, (2, x0)), (1, (0, x1)), (2, (0, x2)), (3, (0, x3)), (4, (0, x4)), (5, (2, x5)), (6, (0, x6)), (8, (0, x8))] [(0, s0)] (n, K, F, E) Q := by
  refine s_istore (q := 161) (lv' := [(7, (0, s0)), (0, (2, x0)), (1, (0, x1)), (2, (0, x2)), (3, (0, x3)), (4, (0, x4)), (5, (2, x5)), (6, (0, x6)), (8, (0, x8))]) 76 rfl rfl ?_
  obtain ⟨c1, h⟩ := h
  refine n_iinc (q := 164) (lv' := [(8, (0, x8 + 1)), (7, (0, s0)), (0, (2, x0)), (1, (0, x1)), (2, (0, x2)), (3, (0, x3)), (4, (0, x4)), (5, (2, x5)), (6, (0, x6))]) 77 8 rfl rfl c1 rfl ?_
  refine s_goto (tgt := 80) 78 rfl rfl ?_
  refine PW.pick [2, 3, 4, 5, 6, 7, 8, 1, 0] rfl ?_
  exact h
theorem vX11_nextOrder_0 {l : Launch} {G : pG} {bg : Nat × Nat} {n : Nat} {K : Int → Nat × Nat} {F E : Int → Int → Int} {Q : Option pV → pM → Prop} (x0 x1 : Int) (h : (-2147483648 ≤ x1 - 2 ∧ x1 - 2 < 2147483648) ∧ PW l G 1 mX11_nextOrder bg 4 [(0, (2, x0)), (1, (0, x1)), (2, (0, x1 - 2))] [] (n, K, F, E) Q) : PW l G 1 mX11_nextOrder bg 0 [(0, (2, x0)), (1, (0, x1))] [] (n, K, F, E) Q := by
  refine s_iload_n (q := 1) 0 1 rfl rfl ?_
  refine s_iconst (q := 2) 1 rfl ?_
  obtain ⟨c1, h⟩ := h
  refine n_isub (q := 3) 2 rfl c1 ?_
  refine s_istore_n (q := 4) (lv' := [(2, (0, x1 - 2)), (0, (2, x0)), (1, (0, x1))]) 3 rfl rfl ?_
  refine PW.pick [1, 2, 0] rfl ?_
  exact h
theorem vX11_nextOrder_4 {l : Launch} {G : pG} {bg : Nat × Nat} {n : Nat} {K : Int → Nat × Nat} {F E : Int → Int → Int} {Q : Option pV → pM → Prop} (x0 x1 x2 : Int) (h : ((x2 < 0 → ((0 ≤ x2 → (-2147483648 ≤ x1 - 1 ∧ x1 - 1 < 2147483648) ∧ PW l G 1 mX11_nextOrder bg 35 [(0, (2, x0)), (1, (0, x1)), (2, (0, x2)), (3, (0, x1 - 1))] [] (n, K, F, E) Q) ∧ (¬ (0 ≤ x2) → Q (some (0, 0)) (n, K, F, E)))) ∧ (¬ (x2 < 0) → (K x0).1 = 20 ∧ ((0 : Int) ≤ x2 ∧ x2 < ((K x0).2 : Int)) ∧ (-2147483648 ≤ x2 + 1 ∧ x2 + 1 < 2147483648) ∧ ((0 : Int) ≤ x2 + 1 ∧ x2 + 1 < ((K x0).2 : Int)) ∧ ((E x0 x2 ≤ E x0 (x2 + 1) → ((0 ≤ x2 → (-2147483648 ≤ x1 - 1 ∧ x1 - 1 < 2147483648) ∧ PW l G 1 mX11_nextOrder bg 35 [(0, (2, x0)), (1, (0, x1)), (2, (0, x2)), (3, (0, x1 - 1))] [] (n, K, F, E) Q) ∧ (¬ (0 ≤ x2) → Q (some (0, 0)) (n, K, F, E)))) ∧ (¬ (E x0 x2 ≤ E x0 (x2 + 1)) → (-2147483648 ≤ x2 + (-1) ∧ x2 + (-1) < 2147483648) ∧ PW l G 1 mX11_nextOrder bg 4 [(0, (2, x0)), (1, (0, x1)), (2, (0, x2 + (-1)))] [] (n, K, F, E) Q))))) : PW l G 1 mX11_nextOrder bg 4 [(0, (2, x0)), (1, (0, x1)), (2, (0, x2))] [] (n, K, F, E) Q := by
  refine s_iload_n (q := 5) 4 2 rfl rfl ?_
  refine s_if_lt (q := 8) (tgt := 25) 5 rfl rfl (fun hb => ?_) (fun hb => ?_)
  · skip
    have b1 := hb
    replace h := h.1 hb
    refine s_iload_n (q := 26) 17 2 rfl rfl ?_
    refine s_if_ge (q := 29) (tgt := 31) 18 rfl rfl (fun hb => ?_) (fun hb => ?_)
    · skip
      have b2 := hb
      replace h := h.1 hb
      refine s_iload_n (q := 32) 21 1 rfl rfl ?_
      refine s_iconst (q := 33) 22 rfl ?_
      obtain ⟨c3, h⟩ := h
      refine n_isub (q := 34) 23 rfl c3 ?_
      refine s_istore_n (q := 35) (lv' := [(3, (0, x1 - 1)), (0, (2, x0)), (1, (0, x1)), (2, (0, x2))]) 24 rfl rfl ?_
      refine PW.pick [1, 2, 3, 0] rfl ?_
      exact h
    · skip
      have b2 := hb
      replace h := h.2 hb
      refine s_iconst (q := 30) 19 rfl ?_
      exact s_zret 20 rfl rfl (by decide) h
  · skip
    have b1 := hb
    replace h := h.2 hb
    refine s_aload_n (q := 9) 6 0 rfl rfl ?_
    refine s_iload_n (q := 10) 7 2 rfl rfl ?_
    obtain ⟨c4, h⟩ := h
    obtain ⟨c5, h⟩ := h
    refine n_iald (q := 11) 8 rfl c4 c5 ?_
    refine s_aload_n (q := 12) 9 0 rfl rfl ?_
    refine s_iload_n (q := 13) 10 2 rfl rfl ?_
    refine s_iconst (q := 14) 11 rfl ?_
    obtain ⟨c6, h⟩ := h
    refine n_iadd (q := 15) 12 rfl c6 ?_
    obtain ⟨c7, h⟩ := h
    refine n_iald (q := 16) 13 rfl c4 c7 ?_
    refine s_icmp_le (q := 19) (tgt := 25) 14 rfl rfl (fun hb => ?_) (fun hb => ?_)
    · skip
      have b8 := hb
      replace h := h.1 hb
      refine s_iload_n (q := 26) 17 2 rfl rfl ?_
      refine s_if_ge (q := 29) (tgt := 31) 18 rfl rfl (fun hb => ?_) (fun hb => ?_)
      · skip
        have b9 := hb
        replace h := h.1 hb
        refine s_iload_n (q := 32) 21 1 rfl rfl ?_
        refine s_iconst (q := 33) 22 rfl ?_
        obtain ⟨c10, h⟩ := h
        refine n_isub (q := 34) 23 rfl c10 ?_
        refine s_istore_n (q := 35) (lv' := [(3, (0, x1 - 1)), (0, (2, x0)), (1, (0, x1)), (2, (0, x2))]) 24 rfl rfl ?_
        refine PW.pick [1, 2, 3, 0] rfl ?_
        exact h
      · skip
        have b9 := hb
        replace h := h.2 hb
        refine s_iconst (q := 30) 19 rfl ?_
        exact s_zret 20 rfl rfl (by decide) h
    · skip
      have b8 := hb
      replace h := h.2 hb
      obtain ⟨c11, h⟩ := h
      refine n_iinc (q := 22) (lv' := [(2, (0, x2 + (-1))), (0, (2, x0)), (1, (0, x1))]) 15 2 rfl rfl c11 rfl ?_
      refine s_goto (tgt := 4) 16 rfl rfl ?_
      refine PW.pick [1, 2, 0] rfl ?_
      exact h
theorem vX11_nextOrder_35 {l : Launch} {G : pG} {bg : Nat × Nat} {n : Nat} {K : Int → Nat × Nat} {F E : Int → Int → Int} {Q : Option pV → pM → Prop} (x0 x1 x2 x3 : Int) (h : ((x3 ≤ x2 → (K x0).1 = 20 ∧ ((0 : Int) ≤ x2 ∧ x2 < ((K x0).2 : Int)) ∧ ((0 : Int) ≤ x3 ∧ x3 < ((K x0).2 : Int)) ∧ (0 : Int) ≤ x0 ∧ (∀ E1, E1 = pUp E x0 x2 (E x0 x3) → (∀ E2, E2 = pUp E1 x0 x3 (E x0 x2) → (-2147483648 ≤ x2 + 1 ∧ x2 + 1 < 2147483648) ∧ (-2147483648 ≤ x1 - 1 ∧ x1 - 1 < 2147483648) ∧ PW l G 1 mX11_nextOrder bg 71 [(0, (2, x0)), (4, (0, x2 + 1)), (5, (0, x1 - 1))] [] (n, K, F, E2) Q))) ∧ (¬ (x3 ≤ x2) → (K x0).1 = 20 ∧ ((0 : Int) ≤ x3 ∧ x3 < ((K x0).2 : Int)) ∧ ((0 : Int) ≤ x2 ∧ x2 < ((K x0).2 : Int)) ∧ ((E x0 x2 ≤ E x0 x3 → (0 : Int) ≤ x0 ∧ (∀ E3, E3 = pUp E x0 x2 (E x0 x3) → (∀ E4, E4 = pUp E3 x0 x3 (E x0 x2) → (-2147483648 ≤ x2 + 1 ∧ x2 + 1 < 2147483648) ∧ (-2147483648 ≤ x1 - 1 ∧ x1 - 1 < 2147483648) ∧ PW l G 1 mX11_nextOrder bg 71 [(0, (2, x0)), (4, (0, x2 + 1)), (5, (0, x1 - 1))] [] (n, K, F, E4) Q))) ∧ (¬ (E x0 x2 ≤ E x0 x3) → (-2147483648 ≤ x3 + (-1) ∧ x3 + (-1) < 2147483648) ∧ PW l G 1 mX11_nextOrder bg 35 [(0, (2, x0)), (1, (0, x1)), (2, (0, x2)), (3, (0, x3 + (-1)))] [] (n, K, F, E) Q))))) : PW l G 1 mX11_nextOrder bg 35 [(0, (2, x0)), (1, (0, x1)), (2, (0, x2)), (3, (0, x3))] [] (n, K, F, E) Q := by
  refine s_iload_n (q := 36) 25 3 rfl rfl ?_
  refine s_iload_n (q := 37) 26 2 rfl rfl ?_
  refine s_icmp_le (q := 40) (tgt := 55) 27 rfl rfl (fun hb => ?_) (fun hb => ?_)
  · skip
    have b1 := hb
    replace h := h.1 hb
    refine s_aload_n (q := 56) 37 0 rfl rfl ?_
    refine s_iload_n (q := 57) 38 2 rfl rfl ?_
    refine s_iload_n (q := 58) 39 3 rfl rfl ?_
    refine n_callS (N := mX11_swap) (as := [(2, x0), (0, x2), (0, x3)]) (st := []) (q := 61) (d' := 0) 40 rfl uX11_swap kX11_408 rfl ?_
    show PW l G 0 mX11_swap (0, 0) 0 [(0, (2, x0)), (1, (0, x2)), (2, (0, x3))] [] (n, K, F, E) _
    refine s_aload_n (q := 1) 0 0 rfl rfl ?_
    refine s_iload_n (q := 2) 1 1 rfl rfl ?_
    obtain ⟨c2, h⟩ := h
    obtain ⟨c3, h⟩ := h
    refine n_iald (q := 3) 2 rfl c2 c3 ?_
    refine s_istore_n (q := 4) (lv' := [(3, (0, E x0 x2)), (0, (2, x0)), (1, (0, x2)), (2, (0, x3))]) 3 rfl rfl ?_
    refine s_aload_n (q := 5) 4 1 rfl rfl ?_
    refine s_iload_n (q := 6) 5 2 rfl rfl ?_
    refine s_aload_n (q := 7) 6 1 rfl rfl ?_
    refine s_iload_n (q := 8) 7 3 rfl rfl ?_
    obtain ⟨c4, h⟩ := h
    refine n_iald (q := 9) 8 rfl c2 c4 ?_
    obtain ⟨c5, h⟩ := h
    refine n_iast (q := 10) 9 rfl c5 c2 c3 ?_
    refine PW.nameE (fun E1 eE1 => ?_)
    replace h := h E1 eE1
    refine s_aload_n (q := 11) 10 1 rfl rfl ?_
    refine s_iload_n (q := 12) 11 3 rfl rfl ?_
    refine s_iload_n (q := 13) 12 0 rfl rfl ?_
    refine n_iast (q := 14) 13 rfl c5 c2 c4 ?_
    refine PW.nameE (fun E2 eE2 => ?_)
    replace h := h E2 eE2
    refine s_vret 14 rfl rfl ?_
    show PW l G 1 mX11_nextOrder bg 61 [(0, (2, x0)), (1, (0, x1)), (2, (0, x2)), (3, (0, x3))] [] (n, K, F, E2) Q
    refine s_iload_n (q := 62) 41 2 rfl rfl ?_
    refine s_iconst (q := 63) 42 rfl ?_
    obtain ⟨c6, h⟩ := h
    refine n_iadd (q := 64) 43 rfl c6 ?_
    refine s_istore (q := 66) (lv' := [(4, (0, x2 + 1)), (0, (2, x0)), (1, (0, x1)), (2, (0, x2)), (3, (0, x3))]) 44 rfl rfl ?_
    refine s_iload_n (q := 67) 45 2 rfl rfl ?_
    refine s_iconst (q := 68) 46 rfl ?_
    obtain ⟨c7, h⟩ := h
    refine n_isub (q := 69) 47 rfl c7 ?_
    refine s_istore (q := 71) (lv' := [(5, (0, x1 - 1)), (4, (0, x2 + 1)), (0, (2, x0)), (1, (0, x1)), (2, (0, x2)), (3, (0, x3))]) 48 rfl rfl ?_
    refine PW.pick [2, 1, 0] rfl ?_
    exact h
  · skip
    have b1 := hb
    replace h := h.2 hb
    refine s_aload_n (q := 41) 28 0 rfl rfl ?_
    refine s_iload_n (q := 42) 29 3 rfl rfl ?_
    obtain ⟨c8, h⟩ := h
    obtain ⟨c9, h⟩ := h
    refine n_iald (q := 43) 30 rfl c8 c9 ?_
    refine s_aload_n (q := 44) 31 0 rfl rfl ?_
    refine s_iload_n (q := 45) 32 2 rfl rfl ?_
    obtain ⟨c10, h⟩ := h
    refine n_iald (q := 46) 33 rfl c8 c10 ?_
    refine s_icmp_ge (q := 49) (tgt := 55) 34 rfl rfl (fun hb => ?_) (fun hb => ?_)
    · skip
      have b11 := hb
      replace h := h.1 hb
      refine s_aload_n (q := 56) 37 0 rfl rfl ?_
      refine s_iload_n (q := 57) 38 2 rfl rfl ?_
      refine s_iload_n (q := 58) 39 3 rfl rfl ?_
      refine n_callS (N := mX11_swap) (as := [(2, x0), (0, x2), (0, x3)]) (st := []) (q := 61) (d' := 0) 40 rfl uX11_swap kX11_408 rfl ?_
      show PW l G 0 mX11_swap (0, 0) 0 [(0, (2, x0)), (1, (0, x2)), (2, (0, x3))] [] (n, K, F, E) _
      refine s_aload_n (q := 1) 0 0 rfl rfl ?_
      refine s_iload_n (q := 2) 1 1 rfl rfl ?_
      refine n_iald (q := 3) 2 rfl c8 c10 ?_
      refine s_istore_n (q := 4) (lv' := [(3, (0, E x0 x2)), (0, (2, x0)), (1, (0, x2)), (2, (0, x3))]) 3 rfl rfl ?_
      refine s_aload_n (q := 5) 4 1 rfl rfl ?_
      refine s_iload_n (q := 6) 5 2 rfl rfl ?_
      refine s_aload_n (q := 7) 6 1 rfl rfl ?_
      refine s_iload_n (q := 8) 7 3 rfl rfl ?_
      refine n_iald (q := 9) 8 rfl c8 c9 ?_
      obtain ⟨c12, h⟩ := h
      refine n_iast (q := 10) 9 rfl c12 c8 c10 ?_
      refine PW.nameE (fun E3 eE3 => ?_)
      replace h := h E3 eE3
      refine s_aload_n (q := 11) 10 1 rfl rfl ?_
      refine s_iload_n (q := 12) 11 3 rfl rfl ?_
      refine s_iload_n (q := 13) 12 0 rfl rfl ?_
      refine n_iast (q := 14) 13 rfl c12 c8 c9 ?_
      refine PW.nameE (fun E4 eE4 => ?_)
      replace h := h E4 eE4
      refine s_vret 14 rfl rfl ?_
      show PW l G 1 mX11_nextOrder bg 61 [(0, (2, x0)), (1, (0, x1)), (2, (0, x2)), (3, (0, x3))] [] (n, K, F, E4) Q
      refine s_iload_n (q := 62) 41 2 rfl rfl ?_
      refine s_iconst (q := 63) 42 rfl ?_
      obtain ⟨c13, h⟩ := h
      refine n_iadd (q := 64) 43 rfl c13 ?_
      refine s_istore (q := 66) (lv' := [(4, (0, x2 + 1)), (0, (2, x0)), (1, (0, x1)), (2, (0, x2)), (3, (0, x3))]) 44 rfl rfl ?_
      refine s_iload_n (q := 67) 45 2 rfl rfl ?_
      refine s_iconst (q := 68) 46 rfl ?_
      obtain ⟨c14, h⟩ := h
      refine n_isub (q := 69) 47 rfl c14 ?_
      refine s_istore (q := 71) (lv' := [(5, (0, x1 - 1)), (4, (0, x2 + 1)), (0, (2, x0)), (1, (0, x1)), (2, (0, x2)), (3, (0, x3))]) 48 rfl rfl ?_
      refine PW.pick [2, 1, 0] rfl ?_
      exact h
    · skip
      have b11 := hb
      replace h := h.2 hb
      obtain ⟨c15, h⟩ := h
      refine n_iinc (q := 52) (lv' := [(3, (0, x3 + (-1))), (0, (2, x0)), (1, (0, x1)), (2, (0, x2))]) 35 3 rfl rfl c15 rfl ?_
      refine s_goto (tgt := 35) 36 rfl rfl ?_
      refine PW.pick [1, 2, 3, 0] rfl ?_
      exact h
theorem vX11_nextOrder_71 {l : Launch} {G : pG} {bg : Nat × Nat} {n : Nat} {K : Int → Nat × Nat} {F E : Int → Int → Int} {Q : Option pV → pM → Prop} (x0 x4 x5 : Int) (h : ((x5 ≤ x4 → Q (some (0, 1)) (n, K, F, E)) ∧ (¬ (x5 ≤ x4) → (K x0).1 = 20 ∧ ((0 : Int) ≤ x4 ∧ x4 < ((K x0).2 : Int)) ∧ ((0 : Int) ≤ x5 ∧ x5 < ((K x0).2 : Int)) ∧ (0 : Int) ≤ x0 ∧ (∀ E1, E1 = pUp E x0 x4 (E x0 x5) → (∀ E2, E2 = pUp E1 x0 x5 (E x0 x4) → (-2147483648 ≤ x4 + 1 ∧ x4 + 1 < 2147483648) ∧ (-2147483648 ≤ x5 + (-1) ∧ x5 + (-1) < 2147483648) ∧ PW l G 1 mX11_nextOrder bg 71 [(0, (2, x0)), (4, (0, x4 + 1)), (5, (0, x5 + (-1)))] [] (n, K, F, E2) Q))))) : PW l G 1 mX11_nextOrder bg 71 [(0, (2, x0)), (4, (0, x4)), (5, (0, x5))] [] (n, K, F, E) Q := by
  refine s_iload (q := 73) 49 1 rfl rfl ?_
  refine s_iload (q := 75) 50 2 rfl rfl ?_
  refine s_icmp_ge (q := 78) (tgt := 95) 51 rfl rfl (fun hb => ?_) (fun hb => ?_)
  · skip
    have b1 := hb
    replace h := h.1 hb
    refine s_iconst (q := 96) 59 rfl ?_
    exact s_zret 60 rfl rfl (by decide) h
  · skip
    have b1 := hb
    replace h := h.2 hb
    refine s_aload_n (q := 79) 52 0 rfl rfl ?_
    refine s_iload (q := 81) 53 1 rfl rfl ?_
    refine s_iload (q := 83) 54 2 rfl rfl ?_
    refine n_callS (N := mX11_swap) (as := [(2, x0), (0, x4), (0, x5)]) (st := []) (q := 86) (d' := 0) 55 rfl uX11_swap kX11_408 rfl ?_
    show PW l G 0 mX11_swap (0, 0) 0 [(0, (2, x0)), (1, (0, x4)), (2, (0, x5))] [] (n, K, F, E) _
    refine s_aload_n (q := 1) 0 0 rfl rfl ?_
    refine s_iload_n (q := 2) 1 1 rfl rfl ?_
    obtain ⟨c2, h⟩ := h
    obtain ⟨c3, h⟩ := h
    refine n_iald (q := 3) 2 rfl c2 c3 ?_
    refine s_istore_n (q := 4) (lv' := [(3, (0, E x0 x4)), (0, (2, x0)), (1, (0, x4)), (2, (0, x5))]) 3 rfl rfl ?_
    refine s_aload_n (q := 5) 4 1 rfl rfl ?_
    refine s_iload_n (q := 6) 5 2 rfl rfl ?_
    refine s_aload_n (q := 7) 6 1 rfl rfl ?_
    refine s_iload_n (q := 8) 7 3 rfl rfl ?_
    obtain ⟨c4, h⟩ := h
    refine n_iald (q := 9) 8 rfl c2 c4 ?_
    obtain ⟨c5, h⟩ := h
    refine n_iast (q := 10) 9 rfl c5 c2 c3 ?_
    refine PW.nameE (fun E1 eE1 => ?_)
    replace h := h E1 eE1
    refine s_aload_n (q := 11) 10 1 rfl rfl ?_
    refine s_iload_n (q := 12) 11 3 rfl rfl ?_
    refine s_iload_n (q := 13) 12 0 rfl rfl ?_
    refine n_iast (q := 14) 13 rfl c5 c2 c4 ?_
    refine PW.nameE (fun E2 eE2 => ?_)
    replace h := h E2 eE2
    refine s_vret 14 rfl rfl ?_
    show PW l G 1 mX11_nextOrder bg 86 [(0, (2, x0)), (4, (0, x4)), (5, (0, x5))] [] (n, K, F, E2) Q
    obtain ⟨c6, h⟩ := h
    refine n_iinc (q := 89) (lv' := [(4, (0, x4 + 1)), (0, (2, x0)), (5, (0, x5))]) 56 1 rfl rfl c6 rfl ?_
    obtain ⟨c7, h⟩ := h
    refine n_iinc (q := 92) (lv' := [(5, (0, x5 + (-1))), (4, (0, x4 + 1)), (0, (2, x0))]) 57 2 rfl rfl c7 rfl ?_
    refine s_goto (tgt := 71) 58 rfl rfl ?_
    refine PW.pick [2, 1, 0] rfl ?_
    exact h
theorem vX11_mostAlike_0 {l : Launch} {G : pG} {bg : Nat × Nat} {n : Nat} {K : Int → Nat × Nat} {F E : Int → Int → Int} {Q : Option pV → pM → Prop} (x0 x1 : Int) (h : (K x0).1 = 11 ∧ PW l G 3 mX11_mostAlike bg 7 [(0, (2, x0)), (1, (0, x1)), (2, (2, F x0 15)), (3, (0, 0))] [] (n, K, F, E) Q) : PW l G 3 mX11_mostAlike bg 0 [(0, (2, x0)), (1, (0, x1))] [] (n, K, F, E) Q := by
  refine s_aload_n (q := 1) 0 0 rfl rfl ?_
  obtain ⟨c1, h⟩ := h
  refine n_getf (q := 4) (jj := 15) 1 11 15 rfl kX11_94 c1 ?_
  refine s_astore_n (q := 5) (lv' := [(2, (2, F x0 15)), (0, (2, x0)), (1, (0, x1))]) 2 rfl rfl ?_
  refine s_iconst (q := 6) 3 rfl ?_
  refine s_istore_n (q := 7) (lv' := [(3, (0, 0)), (2, (2, F x0 15)), (0, (2, x0)), (1, (0, x1))]) 4 rfl rfl ?_
  refine PW.pick [2, 3, 1, 0] rfl ?_
  exact h
theorem vX11_mostAlike_7 {l : Launch} {G : pG} {bg : Nat × Nat} {n : Nat} {K : Int → Nat × Nat} {F E : Int → Int → Int} {Q : Option pV → pM → Prop} (x0 x1 x2 x3 : Int) (h : ((9 < x3 → PW l G 3 mX11_mostAlike bg 28 [(0, (2, x0)), (1, (0, x1)), (2, (2, x2)), (3, (0, 0)), (4, (0, 0))] [] (n, K, F, E) Q) ∧ (¬ (9 < x3) → (0 : Int) ≤ x2 ∧ (K x2).1 = 20 ∧ ((0 : Int) ≤ x3 ∧ x3 < ((K x2).2 : Int)) ∧ (∀ E1, E1 = pUp E x2 x3 0 → (-2147483648 ≤ x3 + 1 ∧ x3 + 1 < 2147483648) ∧ PW l G 3 mX11_mostAlike bg 7 [(0, (2, x0)), (1, (0, x1)), (2, (2, x2)), (3, (0, x3 + 1))] [] (n, K, F, E1) Q)))) : PW l G 3 mX11_mostAlike bg 7 [(0, (2, x0)), (1, (0, x1)), (2, (2, x2)), (3, (0, x3))] [] (n, K, F, E) Q := by
  refine s_iload_n (q := 8) 5 3 rfl rfl ?_
  refine s_bipush (q := 10) 6 rfl ?_
  refine s_icmp_gt (q := 13) (tgt := 23) 7 rfl rfl (fun hb => ?_) (fun hb => ?_)
  · skip
    have b1 := hb
    replace h := h.1 hb
    refine s_iconst (q := 24) 14 rfl ?_
    refine s_istore_n (q := 25) (lv' := [(3, (0, 0)), (0, (2, x0)), (1, (0, x1)), (2, (2, x2))]) 15 rfl rfl ?_
    refine s_iconst (q := 26) 16 rfl ?_
    refine s_istore (q := 28) (lv' := [(4, (0, 0)), (3, (0, 0)), (0, (2, x0)), (1, (0, x1)), (2, (2, x2))]) 17 rfl rfl ?_
    refine PW.pick [2, 3, 4, 1, 0] rfl ?_
    exact h
  · skip
    have b1 := hb
    replace h := h.2 hb
    refine s_aload_n (q := 14) 8 2 rfl rfl ?_
    refine s_iload_n (q := 15) 9 3 rfl rfl ?_
    refine s_iconst (q := 16) 10 rfl ?_
    obtain ⟨c2, h⟩ := h
    obtain ⟨c3, h⟩ := h
    obtain ⟨c4, h⟩ := h
    refine n_iast (q := 17) 11 rfl c2 c3 c4 ?_
    refine PW.nameE (fun E1 eE1 => ?_)
    replace h := h E1 eE1
    obtain ⟨c5, h⟩ := h
    refine n_iinc (q := 20) (lv' := [(3, (0, x3 + 1)), (0, (2, x0)), (1, (0, x1)), (2, (2, x2))]) 12 3 rfl rfl c5 rfl ?_
    refine s_goto (tgt := 7) 13 rfl rfl ?_
    refine PW.pick [1, 2, 3, 0] rfl ?_
    exact h
theorem vX11_mostAlike_28 {l : Launch} {G : pG} {bg : Nat × Nat} {n : Nat} {K : Int → Nat × Nat} {F E : Int → Int → Int} {Q : Option pV → pM → Prop} (x0 x1 x2 x3 x4 : Int) (h : ((3 ≤ x4 → Q (some (0, x3)) (n, K, F, E)) ∧ (¬ (3 ≤ x4) → PW l G 3 mX11_mostAlike bg 37 [(0, (2, x0)), (1, (0, x1)), (2, (2, x2)), (3, (0, x3)), (4, (0, x4)), (5, (0, 0))] [] (n, K, F, E) Q))) : PW l G 3 mX11_mostAlike bg 28 [(0, (2, x0)), (1, (0, x1)), (2, (2, x2)), (3, (0, x3)), (4, (0, x4))] [] (n, K, F, E) Q := by
  refine s_iload (q := 30) 18 4 rfl rfl ?_
  refine s_iconst (q := 31) 19 rfl ?_
  refine s_icmp_ge (q := 34) (tgt := 114) 20 rfl rfl (fun hb => ?_) (fun hb => ?_)
  · skip
    have b1 := hb
    replace h := h.1 hb
    refine s_iload_n (q := 115) 61 3 rfl rfl ?_
    exact s_iret 62 rfl rfl h
  · skip
    have b1 := hb
    replace h := h.2 hb
    refine s_iconst (q := 35) 21 rfl ?_
    refine s_istore (q := 37) (lv' := [(5, (0, 0)), (0, (2, x0)), (1, (0, x1)), (2, (2, x2)), (3, (0, x3)), (4, (0, x4))]) 22 rfl rfl ?_
    refine PW.pick [1, 2, 3, 4, 5, 0] rfl ?_
    exact h
theorem vX11_mostAlike_37 {l : Launch} {G : pG} {bg : Nat × Nat} {n : Nat} {K : Int → Nat × Nat} {F E : Int → Int → Int} {Q : Option pV → pM → Prop} (x0 x1 x2 x3 x4 x5 : Int) (h : (K x0).1 = 11 ∧ (K (F x0 0)).1 = 1 ∧ (K (F (F x0 0) 0)).1 = 0 ∧ (-2147483648 ≤ 9 + x4 ∧ 9 + x4 < 2147483648) ∧ (K (F (F (F x0 0) 0) 0)).1 = 20 ∧ ((0 : Int) ≤ 9 + x4 ∧ 9 + x4 < ((K (F (F (F x0 0) 0) 0)).2 : Int)) ∧ ((E (F (F (F x0 0) 0) 0) (9 + x4) ≤ x5 → (-2147483648 ≤ x4 + 1 ∧ x4 + 1 < 2147483648) ∧ PW l G 3 mX11_mostAlike bg 28 [(0, (2, x0)), (1, (0, x1)), (2, (2, x2)), (3, (0, x3)), (4, (0, x4 + 1))] [] (n, K, F, E) Q) ∧ (¬ (E (F (F (F x0 0) 0) 0) (9 + x4) ≤ x5) → PC l G 2 mX1_agrees (0, 0) [(2, F x0 0), (0, x4), (0, x5)] (n, K, F, E) (fun r μ => PW l G 3 mX11_mostAlike bg 65 [(0, (2, x0)), (1, (0, x1)), (2, (2, x2)), (3, (0, x3)), (4, (0, x4)), (5, (0, x5))] (r.toList ++ []) μ Q)))) : PW l G 3 mX11_mostAlike bg 37 [(0, (2, x0)), (1, (0, x1)), (2, (2, x2)), (3, (0, x3)), (4, (0, x4)), (5, (0, x5))] [] (n, K, F, E) Q := by
  refine s_iload (q := 39) 23 5 rfl rfl ?_
  refine s_aload_n (q := 40) 24 0 rfl rfl ?_
  obtain ⟨c1, h⟩ := h
  refine n_getf (q := 43) (jj := 0) 25 11 0 rfl kX11_10 c1 ?_
  obtain ⟨c2, h⟩ := h
  refine n_getf (q := 46) (jj := 0) 26 1 0 rfl kX11_125 c2 ?_
  refine s_iload (q := 48) 27 4 rfl rfl ?_
  obtain ⟨c3, h⟩ := h
  refine n_callV (N := mX0_held) (as := [(0, x4)]) (st := [(0, x5)]) (q := 51) (d' := 0) 28 rfl uX0_held kX11_141 rfl c3 ?_
  show PW l G 0 mX0_held (0, 0) 0 [(0, (2, F (F x0 0) 0)), (1, (0, x4))] [] (n, K, F, E) _
  refine s_aload_n (q := 1) 0 0 rfl rfl ?_
  refine n_getf (q := 4) (jj := 0) 1 0 0 rfl kX0_11 c3 ?_
  refine s_bipush (q := 6) 2 rfl ?_
  refine s_iload_n (q := 7) 3 1 rfl rfl ?_
  obtain ⟨c4, h⟩ := h
  refine n_iadd (q := 8) 4 rfl c4 ?_
  obtain ⟨c5, h⟩ := h
  obtain ⟨c6, h⟩ := h
  refine n_iald (q := 9) 5 rfl c5 c6 ?_
  refine s_iret 6 rfl rfl ?_
  show PW l G 3 mX11_mostAlike bg 51 [(0, (2, x0)), (1, (0, x1)), (2, (2, x2)), (3, (0, x3)), (4, (0, x4)), (5, (0, x5))] [(0, E (F (F (F x0 0) 0) 0) (9 + x4)), (0, x5)] (n, K, F, E) Q
  refine s_icmp_ge (q := 54) (tgt := 108) 29 rfl rfl (fun hb => ?_) (fun hb => ?_)
  · skip
    have b7 := hb
    replace h := h.1 hb
    obtain ⟨c8, h⟩ := h
    refine n_iinc (q := 111) (lv' := [(4, (0, x4 + 1)), (0, (2, x0)), (1, (0, x1)), (2, (2, x2)), (3, (0, x3)), (5, (0, x5))]) 59 4 rfl rfl c8 rfl ?_
    refine s_goto (tgt := 28) 60 rfl rfl ?_
    refine PW.pick [1, 2, 3, 4, 0] rfl ?_
    exact h
  · skip
    have b7 := hb
    replace h := h.2 hb
    refine s_aload_n (q := 55) 30 0 rfl rfl ?_
    refine n_getf (q := 58) (jj := 0) 31 11 0 rfl kX11_10 c1 ?_
    refine s_iload (q := 60) 32 4 rfl rfl ?_
    refine s_iload (q := 62) 33 5 rfl rfl ?_
    refine PW.pick [0, 1, 2, 3, 4, 5] rfl ?_
    exact n_callV (N := mX1_agrees) (as := [(0, x4), (0, x5)]) (st := []) (q := 65) (d' := 2) 34 rfl uX1_agrees kX11_300 rfl c2 h
theorem vX11_mostAlike_65 {l : Launch} {G : pG} {bg : Nat × Nat} {n : Nat} {K : Int → Nat × Nat} {F E : Int → Int → Int} {Q : Option pV → pM → Prop} (x0 x1 x2 x3 x4 x5 s0 : Int) (h : ((s0 = 0 → (-2147483648 ≤ x5 + 1 ∧ x5 + 1 < 2147483648) ∧ PW l G 3 mX11_mostAlike bg 37 [(0, (2, x0)), (1, (0, x1)), (2, (2, x2)), (3, (0, x3)), (4, (0, x4)), (5, (0, x5 + 1))] [] (n, K, F, E) Q) ∧ (¬ (s0 = 0) → (K x0).1 = 11 ∧ (K (F x0 0)).1 = 1 ∧ (K (F (F x0 0) 0)).1 = 0 ∧ PC l G 1 mX0_fact (0, 0) [(2, F (F x0 0) 0), (0, x4), (0, x5), (0, x1)] (n, K, F, E) (fun r μ => PW l G 3 mX11_mostAlike bg 83 [(0, (2, x0)), (1, (0, x1)), (2, (2, x2)), (3, (0, x3)), (4, (0, x4)), (5, (0, x5))] (r.toList ++ []) μ Q)))) : PW l G 3 mX11_mostAlike bg 65 [(0, (2, x0)), (1, (0, x1)), (2, (2, x2)), (3, (0, x3)), (4, (0, x4)), (5, (0, x5))] [(0, s0)] (n, K, F, E) Q := by
  refine s_if_eq (q := 68) (tgt := 102) 35 rfl rfl (fun hb => ?_) (fun hb => ?_)
  · skip
    have b1 := hb
    replace h := h.1 hb
    obtain ⟨c2, h⟩ := h
    refine n_iinc (q := 105) (lv' := [(5, (0, x5 + 1)), (0, (2, x0)), (1, (0, x1)), (2, (2, x2)), (3, (0, x3)), (4, (0, x4))]) 57 5 rfl rfl c2 rfl ?_
    refine s_goto (tgt := 37) 58 rfl rfl ?_
    refine PW.pick [1, 2, 3, 4, 5, 0] rfl ?_
    exact h
  · skip
    have b1 := hb
    replace h := h.2 hb
    refine s_aload_n (q := 69) 36 0 rfl rfl ?_
    obtain ⟨c3, h⟩ := h
    refine n_getf (q := 72) (jj := 0) 37 11 0 rfl kX11_10 c3 ?_
    obtain ⟨c4, h⟩ := h
    refine n_getf (q := 75) (jj := 0) 38 1 0 rfl kX11_125 c4 ?_
    refine s_iload (q := 77) 39 4 rfl rfl ?_
    refine s_iload (q := 79) 40 5 rfl rfl ?_
    refine s_iload_n (q := 80) 41 1 rfl rfl ?_
    obtain ⟨c5, h⟩ := h
    refine PW.pick [0, 1, 2, 3, 4, 5] rfl ?_
    exact n_callV (N := mX0_fact) (as := [(0, x4), (0, x5), (0, x1)]) (st := []) (q := 83) (d' := 1) 42 rfl uX0_fact kX11_412 rfl c5 h
theorem vX11_mostAlike_83 {l : Launch} {G : pG} {bg : Nat × Nat} {n : Nat} {K : Int → Nat × Nat} {F E : Int → Int → Int} {Q : Option pV → pM → Prop} (x0 x1 x2 x3 x4 x5 s0 : Int) (h : (K x2).1 = 20 ∧ ((0 : Int) ≤ s0 ∧ s0 < ((K x2).2 : Int)) ∧ (-2147483648 ≤ (E x2 s0) + 1 ∧ (E x2 s0) + 1 < 2147483648) ∧ (0 : Int) ≤ x2 ∧ (∀ E1, E1 = pUp E x2 s0 ((E x2 s0) + 1) → (-2147483648 ≤ x5 + 1 ∧ x5 + 1 < 2147483648) ∧ PW l G 3 mX11_mostAlike bg 37 [(0, (2, x0)), (1, (0, x1)), (2, (2, x2)), (3, (0, max x3 ((E x2 s0) + 1))), (4, (0, x4)), (5, (0, x5 + 1))] [] (n, K, F, E1) Q)) : PW l G 3 mX11_mostAlike bg 83 [(0, (2, x0)), (1, (0, x1)), (2, (2, x2)), (3, (0, x3)), (4, (0, x4)), (5, (0, x5))] [(0, s0)] (n, K, F, E) Q := by
  refine s_istore (q := 85) (lv' := [(6, (0, s0)), (0, (2, x0)), (1, (0, x1)), (2, (2, x2)), (3, (0, x3)), (4, (0, x4)), (5, (0, x5))]) 43 rfl rfl ?_
  refine s_aload_n (q := 86) 44 3 rfl rfl ?_
  refine s_iload (q := 88) 45 0 rfl rfl ?_
  refine s_dup2 (q := 89) 46 rfl ?_
  obtain ⟨c1, h⟩ := h
  obtain ⟨c2, h⟩ := h
  refine n_iald (q := 90) 47 rfl c1 c2 ?_
  refine s_iconst (q := 91) 48 rfl ?_
  obtain ⟨c3, h⟩ := h
  refine n_iadd (q := 92) 49 rfl c3 ?_
  obtain ⟨c4, h⟩ := h
  refine n_iast (q := 93) 50 rfl c4 c1 c2 ?_
  refine PW.nameE (fun E1 eE1 => ?_)
  replace h := h E1 eE1
  refine s_iload_n (q := 94) 51 4 rfl rfl ?_
  refine s_aload_n (q := 95) 52 3 rfl rfl ?_
  refine s_iload (q := 97) 53 0 rfl rfl ?_
  refine n_iald (q := 98) 54 rfl c1 c2 ?_
  refine PW.top (b := (E x2 s0) + 1) (by exact (congrFun (congrFun eE1 _) _).trans pUp_s) ?_
  refine s_imax (q := 101) 55 rfl kX11_415 ?_
  refine s_istore_n (q := 102) (lv' := [(3, (0, max x3 ((E x2 s0) + 1))), (6, (0, s0)), (0, (2, x0)), (1, (0, x1)), (2, (2, x2)), (4, (0, x4)), (5, (0, x5))]) 56 rfl rfl ?_
  obtain ⟨c5, h⟩ := h
  refine n_iinc (q := 105) (lv' := [(5, (0, x5 + 1)), (3, (0, max x3 ((E x2 s0) + 1))), (6, (0, s0)), (0, (2, x0)), (1, (0, x1)), (2, (2, x2)), (4, (0, x4))]) 57 6 rfl rfl c5 rfl ?_
  refine s_goto (tgt := 37) 58 rfl rfl ?_
  refine PW.pick [3, 4, 5, 1, 6, 0] rfl ?_
  exact h
