set_option maxRecDepth 100000 in
theorem vL_law_18 {l : Launch} {G : pG} {bg : Nat × Nat} {n : Nat} {K : Int → Nat × Nat} {F E : Int → Int → Int} {Q : Option pV → pM → Prop} (x0 x1 x2 x3 : Int) (h : (K x0).1 = 20 ∧ (-2147483648 ≤ ((K x0).2 : Int) - 6 ∧ ((K x0).2 : Int) - 6 < 2147483648) ∧ ((((K x0).2 : Int) - 6 < x3 → Q (some (0, 1)) (n, K, F, E)) ∧ (¬ (((K x0).2 : Int) - 6 < x3) → ((0 : Int) ≤ x3 ∧ x3 < ((K x0).2 : Int)) ∧ (((bAnd (E x0 x3) 63 < 0 ∨ 38 < bAnd (E x0 x3) 63) → PW l G 84 mL_law bg 1382 [(0, (2, x0)), (1, (2, x1)), (2, (2, x2)), (3, (0, x3))] [] (n, K, F, E) Q) ∧ (bAnd (E x0 x3) 63 = 0 → PW l G 84 mL_law bg 204 [(0, (2, x0)), (1, (2, x1)), (2, (2, x2)), (3, (0, x3))] [] (n, K, F, E) Q) ∧ (bAnd (E x0 x3) 63 = 1 → PW l G 84 mL_law bg 257 [(0, (2, x0)), (1, (2, x1)), (2, (2, x2)), (3, (0, x3))] [] (n, K, F, E) Q) ∧ (bAnd (E x0 x3) 63 = 2 → PW l G 84 mL_law bg 310 [(0, (2, x0)), (1, (2, x1)), (2, (2, x2)), (3, (0, x3))] [] (n, K, F, E) Q) ∧ (bAnd (E x0 x3) 63 = 3 → PW l G 84 mL_law bg 343 [(0, (2, x0)), (1, (2, x1)), (2, (2, x2)), (3, (0, x3))] [] (n, K, F, E) Q) ∧ (bAnd (E x0 x3) 63 = 4 → PW l G 84 mL_law bg 376 [(0, (2, x0)), (1, (2, x1)), (2, (2, x2)), (3, (0, x3))] [] (n, K, F, E) Q) ∧ (bAnd (E x0 x3) 63 = 5 → PW l G 84 mL_law bg 419 [(0, (2, x0)), (1, (2, x1)), (2, (2, x2)), (3, (0, x3))] [] (n, K, F, E) Q) ∧ (bAnd (E x0 x3) 63 = 6 → PW l G 84 mL_law bg 452 [(0, (2, x0)), (1, (2, x1)), (2, (2, x2)), (3, (0, x3))] [] (n, K, F, E) Q) ∧ (bAnd (E x0 x3) 63 = 7 → PW l G 84 mL_law bg 515 [(0, (2, x0)), (1, (2, x1)), (2, (2, x2)), (3, (0, x3))] [] (n, K, F, E) Q) ∧ (bAnd (E x0 x3) 63 = 8 → PW l G 84 mL_law bg 538 [(0, (2, x0)), (1, (2, x1)), (2, (2, x2)), (3, (0, x3))] [] (n, K, F, E) Q) ∧ (bAnd (E x0 x3) 63 = 9 → PW l G 84 mL_law bg 551 [(0, (2, x0)), (1, (2, x1)), (2, (2, x2)), (3, (0, x3))] [] (n, K, F, E) Q) ∧ (bAnd (E x0 x3) 63 = 10 → PW l G 84 mL_law bg 564 [(0, (2, x0)), (1, (2, x1)), (2, (2, x2)), (3, (0, x3))] [] (n, K, F, E) Q) ∧ (bAnd (E x0 x3) 63 = 11 → PW l G 84 mL_law bg 577 [(0, (2, x0)), (1, (2, x1)), (2, (2, x2)), (3, (0, x3))] [] (n, K, F, E) Q) ∧ (bAnd (E x0 x3) 63 = 12 → PW l G 84 mL_law bg 590 [(0, (2, x0)), (1, (2, x1)), (2, (2, x2)), (3, (0, x3))] [] (n, K, F, E) Q) ∧ (bAnd (E x0 x3) 63 = 13 → PW l G 84 mL_law bg 603 [(0, (2, x0)), (1, (2, x1)), (2, (2, x2)), (3, (0, x3))] [] (n, K, F, E) Q) ∧ (bAnd (E x0 x3) 63 = 14 → PW l G 84 mL_law bg 616 [(0, (2, x0)), (1, (2, x1)), (2, (2, x2)), (3, (0, x3))] [] (n, K, F, E) Q) ∧ (bAnd (E x0 x3) 63 = 15 → PW l G 84 mL_law bg 639 [(0, (2, x0)), (1, (2, x1)), (2, (2, x2)), (3, (0, x3))] [] (n, K, F, E) Q) ∧ (bAnd (E x0 x3) 63 = 16 → PW l G 84 mL_law bg 682 [(0, (2, x0)), (1, (2, x1)), (2, (2, x2)), (3, (0, x3))] [] (n, K, F, E) Q) ∧ (bAnd (E x0 x3) 63 = 17 → PW l G 84 mL_law bg 705 [(0, (2, x0)), (1, (2, x1)), (2, (2, x2)), (3, (0, x3))] [] (n, K, F, E) Q) ∧ (bAnd (E x0 x3) 63 = 18 → PW l G 84 mL_law bg 738 [(0, (2, x0)), (1, (2, x1)), (2, (2, x2)), (3, (0, x3))] [] (n, K, F, E) Q) ∧ (bAnd (E x0 x3) 63 = 19 → PW l G 84 mL_law bg 771 [(0, (2, x0)), (1, (2, x1)), (2, (2, x2)), (3, (0, x3))] [] (n, K, F, E) Q) ∧ (bAnd (E x0 x3) 63 = 20 → PW l G 84 mL_law bg 784 [(0, (2, x0)), (1, (2, x1)), (2, (2, x2)), (3, (0, x3))] [] (n, K, F, E) Q) ∧ (bAnd (E x0 x3) 63 = 21 → PW l G 84 mL_law bg 817 [(0, (2, x0)), (1, (2, x1)), (2, (2, x2)), (3, (0, x3))] [] (n, K, F, E) Q) ∧ (bAnd (E x0 x3) 63 = 22 → PW l G 84 mL_law bg 840 [(0, (2, x0)), (1, (2, x1)), (2, (2, x2)), (3, (0, x3))] [] (n, K, F, E) Q) ∧ (bAnd (E x0 x3) 63 = 23 → PW l G 84 mL_law bg 853 [(0, (2, x0)), (1, (2, x1)), (2, (2, x2)), (3, (0, x3))] [] (n, K, F, E) Q) ∧ (bAnd (E x0 x3) 63 = 24 → PW l G 84 mL_law bg 906 [(0, (2, x0)), (1, (2, x1)), (2, (2, x2)), (3, (0, x3))] [] (n, K, F, E) Q) ∧ (bAnd (E x0 x3) 63 = 25 → PW l G 84 mL_law bg 959 [(0, (2, x0)), (1, (2, x1)), (2, (2, x2)), (3, (0, x3))] [] (n, K, F, E) Q) ∧ (bAnd (E x0 x3) 63 = 26 → PW l G 84 mL_law bg 1002 [(0, (2, x0)), (1, (2, x1)), (2, (2, x2)), (3, (0, x3))] [] (n, K, F, E) Q) ∧ (bAnd (E x0 x3) 63 = 27 → PW l G 84 mL_law bg 1055 [(0, (2, x0)), (1, (2, x1)), (2, (2, x2)), (3, (0, x3))] [] (n, K, F, E) Q) ∧ (bAnd (E x0 x3) 63 = 28 → PW l G 84 mL_law bg 1088 [(0, (2, x0)), (1, (2, x1)), (2, (2, x2)), (3, (0, x3))] [] (n, K, F, E) Q) ∧ (bAnd (E x0 x3) 63 = 29 → PW l G 84 mL_law bg 1101 [(0, (2, x0)), (1, (2, x1)), (2, (2, x2)), (3, (0, x3))] [] (n, K, F, E) Q) ∧ (bAnd (E x0 x3) 63 = 30 → PW l G 84 mL_law bg 1124 [(0, (2, x0)), (1, (2, x1)), (2, (2, x2)), (3, (0, x3))] [] (n, K, F, E) Q) ∧ (bAnd (E x0 x3) 63 = 31 → PW l G 84 mL_law bg 1147 [(0, (2, x0)), (1, (2, x1)), (2, (2, x2)), (3, (0, x3))] [] (n, K, F, E) Q) ∧ (bAnd (E x0 x3) 63 = 32 → PW l G 84 mL_law bg 1181 [(0, (2, x0)), (1, (2, x1)), (2, (2, x2)), (3, (0, x3))] [] (n, K, F, E) Q) ∧ (bAnd (E x0 x3) 63 = 33 → PW l G 84 mL_law bg 1234 [(0, (2, x0)), (1, (2, x1)), (2, (2, x2)), (3, (0, x3))] [] (n, K, F, E) Q) ∧ (bAnd (E x0 x3) 63 = 34 → PW l G 84 mL_law bg 1267 [(0, (2, x0)), (1, (2, x1)), (2, (2, x2)), (3, (0, x3))] [] (n, K, F, E) Q) ∧ (bAnd (E x0 x3) 63 = 35 → PW l G 84 mL_law bg 1300 [(0, (2, x0)), (1, (2, x1)), (2, (2, x2)), (3, (0, x3))] [] (n, K, F, E) Q) ∧ (bAnd (E x0 x3) 63 = 36 → PW l G 84 mL_law bg 1323 [(0, (2, x0)), (1, (2, x1)), (2, (2, x2)), (3, (0, x3))] [] (n, K, F, E) Q) ∧ (bAnd (E x0 x3) 63 = 37 → PW l G 84 mL_law bg 1346 [(0, (2, x0)), (1, (2, x1)), (2, (2, x2)), (3, (0, x3))] [] (n, K, F, E) Q) ∧ (bAnd (E x0 x3) 63 = 38 → PW l G 84 mL_law bg 1369 [(0, (2, x0)), (1, (2, x1)), (2, (2, x2)), (3, (0, x3))] [] (n, K, F, E) Q))))) : PW l G 84 mL_law bg 18 [(0, (2, x0)), (1, (2, x1)), (2, (2, x2)), (3, (0, x3))] [] (n, K, F, E) Q := by
  refine s_iload_n (q := 19) 10 3 rfl rfl ?_
  refine s_aload_n (q := 20) 11 0 rfl rfl ?_
  obtain ⟨c1, h⟩ := h
  refine n_alen (q := 21) 12 0 rfl c1 ?_
  refine s_bipush (q := 23) 13 rfl ?_
  obtain ⟨c2, h⟩ := h
  refine n_isub (q := 24) 14 rfl c2 ?_
  refine s_icmp_gt (q := 27) (tgt := 1388) 15 rfl rfl (fun hb => ?_) (fun hb => ?_)
  · skip
    have b3 := hb
    replace h := h.1 hb
    refine s_iconst (q := 1389) 968 rfl ?_
    exact s_zret 969 rfl rfl (by decide) h
  · skip
    have b3 := hb
    replace h := h.2 hb
    refine s_aload_n (q := 28) 16 0 rfl rfl ?_
    refine s_iload_n (q := 29) 17 3 rfl rfl ?_
    obtain ⟨c4, h⟩ := h
    refine n_iald (q := 30) 18 rfl c1 c4 ?_
    refine s_bipush (q := 32) 19 rfl ?_
    refine s_iand (q := 33) 20 rfl ?_
    obtain ⟨h0, h⟩ := h
    by_cases hsw : bAnd (E x0 x3) 63 < 0 ∨ 38 < bAnd (E x0 x3) 63
    · refine s_tableOut (tgt := 1382) 21 rfl hsw rfl ?_
      replace h := h0 hsw
      refine PW.pick [0, 1, 2, 3] rfl ?_
      exact h
    have gl : 0 ≤ bAnd (E x0 x3) 63 := by omega
    have gh : bAnd (E x0 x3) 63 ≤ 38 := by omega
    clear hsw
    obtain ⟨h0, h⟩ := h
    by_cases hs0 : bAnd (E x0 x3) 63 = 0
    · refine s_tableIn (tgt := 204) (off := 171) 21 rfl ⟨by rw [hs0]; decide, by rw [hs0]; decide⟩ (by rw [hs0]; rfl) rfl ?_
      replace h := h0 hs0
      refine PW.pick [0, 1, 2, 3] rfl ?_
      exact h
    clear h0
    replace gl : 1 ≤ bAnd (E x0 x3) 63 := by clear h; omega
    clear hs0
    obtain ⟨h0, h⟩ := h
    by_cases hs0 : bAnd (E x0 x3) 63 = 1
    · refine s_tableIn (tgt := 257) (off := 224) 21 rfl ⟨by rw [hs0]; decide, by rw [hs0]; decide⟩ (by rw [hs0]; rfl) rfl ?_
      replace h := h0 hs0
      refine PW.pick [0, 1, 2, 3] rfl ?_
      exact h
    clear h0
    replace gl : 2 ≤ bAnd (E x0 x3) 63 := by clear h; omega
    clear hs0
    obtain ⟨h0, h⟩ := h
    by_cases hs0 : bAnd (E x0 x3) 63 = 2
    · refine s_tableIn (tgt := 310) (off := 277) 21 rfl ⟨by rw [hs0]; decide, by rw [hs0]; decide⟩ (by rw [hs0]; rfl) rfl ?_
      replace h := h0 hs0
      refine PW.pick [0, 1, 2, 3] rfl ?_
      exact h
    clear h0
    replace gl : 3 ≤ bAnd (E x0 x3) 63 := by clear h; omega
    clear hs0
    obtain ⟨h0, h⟩ := h
    by_cases hs0 : bAnd (E x0 x3) 63 = 3
    · refine s_tableIn (tgt := 343) (off := 310) 21 rfl ⟨by rw [hs0]; decide, by rw [hs0]; decide⟩ (by rw [hs0]; rfl) rfl ?_
      replace h := h0 hs0
      refine PW.pick [0, 1, 2, 3] rfl ?_
      exact h
    clear h0
    replace gl : 4 ≤ bAnd (E x0 x3) 63 := by clear h; omega
    clear hs0
    obtain ⟨h0, h⟩ := h
    by_cases hs0 : bAnd (E x0 x3) 63 = 4
    · refine s_tableIn (tgt := 376) (off := 343) 21 rfl ⟨by rw [hs0]; decide, by rw [hs0]; decide⟩ (by rw [hs0]; rfl) rfl ?_
      replace h := h0 hs0
      refine PW.pick [0, 1, 2, 3] rfl ?_
      exact h
    clear h0
    replace gl : 5 ≤ bAnd (E x0 x3) 63 := by clear h; omega
    clear hs0
    obtain ⟨h0, h⟩ := h
    by_cases hs0 : bAnd (E x0 x3) 63 = 5
    · refine s_tableIn (tgt := 419) (off := 386) 21 rfl ⟨by rw [hs0]; decide, by rw [hs0]; decide⟩ (by rw [hs0]; rfl) rfl ?_
      replace h := h0 hs0
      refine PW.pick [0, 1, 2, 3] rfl ?_
      exact h
    clear h0
    replace gl : 6 ≤ bAnd (E x0 x3) 63 := by clear h; omega
    clear hs0
    obtain ⟨h0, h⟩ := h
    by_cases hs0 : bAnd (E x0 x3) 63 = 6
    · refine s_tableIn (tgt := 452) (off := 419) 21 rfl ⟨by rw [hs0]; decide, by rw [hs0]; decide⟩ (by rw [hs0]; rfl) rfl ?_
      replace h := h0 hs0
      refine PW.pick [0, 1, 2, 3] rfl ?_
      exact h
    clear h0
    replace gl : 7 ≤ bAnd (E x0 x3) 63 := by clear h; omega
    clear hs0
    obtain ⟨h0, h⟩ := h
    by_cases hs0 : bAnd (E x0 x3) 63 = 7
    · refine s_tableIn (tgt := 515) (off := 482) 21 rfl ⟨by rw [hs0]; decide, by rw [hs0]; decide⟩ (by rw [hs0]; rfl) rfl ?_
      replace h := h0 hs0
      refine PW.pick [0, 1, 2, 3] rfl ?_
      exact h
    clear h0
    replace gl : 8 ≤ bAnd (E x0 x3) 63 := by clear h; omega
    clear hs0
    obtain ⟨h0, h⟩ := h
    by_cases hs0 : bAnd (E x0 x3) 63 = 8
    · refine s_tableIn (tgt := 538) (off := 505) 21 rfl ⟨by rw [hs0]; decide, by rw [hs0]; decide⟩ (by rw [hs0]; rfl) rfl ?_
      replace h := h0 hs0
      refine PW.pick [0, 1, 2, 3] rfl ?_
      exact h
    clear h0
    replace gl : 9 ≤ bAnd (E x0 x3) 63 := by clear h; omega
    clear hs0
    obtain ⟨h0, h⟩ := h
    by_cases hs0 : bAnd (E x0 x3) 63 = 9
    · refine s_tableIn (tgt := 551) (off := 518) 21 rfl ⟨by rw [hs0]; decide, by rw [hs0]; decide⟩ (by rw [hs0]; rfl) rfl ?_
      replace h := h0 hs0
      refine PW.pick [0, 1, 2, 3] rfl ?_
      exact h
    clear h0
    replace gl : 10 ≤ bAnd (E x0 x3) 63 := by clear h; omega
    clear hs0
    obtain ⟨h0, h⟩ := h
    by_cases hs0 : bAnd (E x0 x3) 63 = 10
    · refine s_tableIn (tgt := 564) (off := 531) 21 rfl ⟨by rw [hs0]; decide, by rw [hs0]; decide⟩ (by rw [hs0]; rfl) rfl ?_
      replace h := h0 hs0
      refine PW.pick [0, 1, 2, 3] rfl ?_
      exact h
    clear h0
    replace gl : 11 ≤ bAnd (E x0 x3) 63 := by clear h; omega
    clear hs0
    obtain ⟨h0, h⟩ := h
    by_cases hs0 : bAnd (E x0 x3) 63 = 11
    · refine s_tableIn (tgt := 577) (off := 544) 21 rfl ⟨by rw [hs0]; decide, by rw [hs0]; decide⟩ (by rw [hs0]; rfl) rfl ?_
      replace h := h0 hs0
      refine PW.pick [0, 1, 2, 3] rfl ?_
      exact h
    clear h0
    replace gl : 12 ≤ bAnd (E x0 x3) 63 := by clear h; omega
    clear hs0
    obtain ⟨h0, h⟩ := h
    by_cases hs0 : bAnd (E x0 x3) 63 = 12
    · refine s_tableIn (tgt := 590) (off := 557) 21 rfl ⟨by rw [hs0]; decide, by rw [hs0]; decide⟩ (by rw [hs0]; rfl) rfl ?_
      replace h := h0 hs0
      refine PW.pick [0, 1, 2, 3] rfl ?_
      exact h
    clear h0
    replace gl : 13 ≤ bAnd (E x0 x3) 63 := by clear h; omega
    clear hs0
    obtain ⟨h0, h⟩ := h
    by_cases hs0 : bAnd (E x0 x3) 63 = 13
    · refine s_tableIn (tgt := 603) (off := 570) 21 rfl ⟨by rw [hs0]; decide, by rw [hs0]; decide⟩ (by rw [hs0]; rfl) rfl ?_
      replace h := h0 hs0
      refine PW.pick [0, 1, 2, 3] rfl ?_
      exact h
    clear h0
    replace gl : 14 ≤ bAnd (E x0 x3) 63 := by clear h; omega
    clear hs0
    obtain ⟨h0, h⟩ := h
    by_cases hs0 : bAnd (E x0 x3) 63 = 14
    · refine s_tableIn (tgt := 616) (off := 583) 21 rfl ⟨by rw [hs0]; decide, by rw [hs0]; decide⟩ (by rw [hs0]; rfl) rfl ?_
      replace h := h0 hs0
      refine PW.pick [0, 1, 2, 3] rfl ?_
      exact h
    clear h0
    replace gl : 15 ≤ bAnd (E x0 x3) 63 := by clear h; omega
    clear hs0
    obtain ⟨h0, h⟩ := h
    by_cases hs0 : bAnd (E x0 x3) 63 = 15
    · refine s_tableIn (tgt := 639) (off := 606) 21 rfl ⟨by rw [hs0]; decide, by rw [hs0]; decide⟩ (by rw [hs0]; rfl) rfl ?_
      replace h := h0 hs0
      refine PW.pick [0, 1, 2, 3] rfl ?_
      exact h
    clear h0
    replace gl : 16 ≤ bAnd (E x0 x3) 63 := by clear h; omega
    clear hs0
    obtain ⟨h0, h⟩ := h
    by_cases hs0 : bAnd (E x0 x3) 63 = 16
    · refine s_tableIn (tgt := 682) (off := 649) 21 rfl ⟨by rw [hs0]; decide, by rw [hs0]; decide⟩ (by rw [hs0]; rfl) rfl ?_
      replace h := h0 hs0
      refine PW.pick [0, 1, 2, 3] rfl ?_
      exact h
    clear h0
    replace gl : 17 ≤ bAnd (E x0 x3) 63 := by clear h; omega
    clear hs0
    obtain ⟨h0, h⟩ := h
    by_cases hs0 : bAnd (E x0 x3) 63 = 17
    · refine s_tableIn (tgt := 705) (off := 672) 21 rfl ⟨by rw [hs0]; decide, by rw [hs0]; decide⟩ (by rw [hs0]; rfl) rfl ?_
      replace h := h0 hs0
      refine PW.pick [0, 1, 2, 3] rfl ?_
      exact h
    clear h0
    replace gl : 18 ≤ bAnd (E x0 x3) 63 := by clear h; omega
    clear hs0
    obtain ⟨h0, h⟩ := h
    by_cases hs0 : bAnd (E x0 x3) 63 = 18
    · refine s_tableIn (tgt := 738) (off := 705) 21 rfl ⟨by rw [hs0]; decide, by rw [hs0]; decide⟩ (by rw [hs0]; rfl) rfl ?_
      replace h := h0 hs0
      refine PW.pick [0, 1, 2, 3] rfl ?_
      exact h
    clear h0
    replace gl : 19 ≤ bAnd (E x0 x3) 63 := by clear h; omega
    clear hs0
    obtain ⟨h0, h⟩ := h
    by_cases hs0 : bAnd (E x0 x3) 63 = 19
    · refine s_tableIn (tgt := 771) (off := 738) 21 rfl ⟨by rw [hs0]; decide, by rw [hs0]; decide⟩ (by rw [hs0]; rfl) rfl ?_
      replace h := h0 hs0
      refine PW.pick [0, 1, 2, 3] rfl ?_
      exact h
    clear h0
    replace gl : 20 ≤ bAnd (E x0 x3) 63 := by clear h; omega
    clear hs0
    obtain ⟨h0, h⟩ := h
    by_cases hs0 : bAnd (E x0 x3) 63 = 20
    · refine s_tableIn (tgt := 784) (off := 751) 21 rfl ⟨by rw [hs0]; decide, by rw [hs0]; decide⟩ (by rw [hs0]; rfl) rfl ?_
      replace h := h0 hs0
      refine PW.pick [0, 1, 2, 3] rfl ?_
      exact h
    clear h0
    replace gl : 21 ≤ bAnd (E x0 x3) 63 := by clear h; omega
    clear hs0
    obtain ⟨h0, h⟩ := h
    by_cases hs0 : bAnd (E x0 x3) 63 = 21
    · refine s_tableIn (tgt := 817) (off := 784) 21 rfl ⟨by rw [hs0]; decide, by rw [hs0]; decide⟩ (by rw [hs0]; rfl) rfl ?_
      replace h := h0 hs0
      refine PW.pick [0, 1, 2, 3] rfl ?_
      exact h
    clear h0
    replace gl : 22 ≤ bAnd (E x0 x3) 63 := by clear h; omega
    clear hs0
    obtain ⟨h0, h⟩ := h
    by_cases hs0 : bAnd (E x0 x3) 63 = 22
    · refine s_tableIn (tgt := 840) (off := 807) 21 rfl ⟨by rw [hs0]; decide, by rw [hs0]; decide⟩ (by rw [hs0]; rfl) rfl ?_
      replace h := h0 hs0
      refine PW.pick [0, 1, 2, 3] rfl ?_
      exact h
    clear h0
    replace gl : 23 ≤ bAnd (E x0 x3) 63 := by clear h; omega
    clear hs0
    obtain ⟨h0, h⟩ := h
    by_cases hs0 : bAnd (E x0 x3) 63 = 23
    · refine s_tableIn (tgt := 853) (off := 820) 21 rfl ⟨by rw [hs0]; decide, by rw [hs0]; decide⟩ (by rw [hs0]; rfl) rfl ?_
      replace h := h0 hs0
      refine PW.pick [0, 1, 2, 3] rfl ?_
      exact h
    clear h0
    replace gl : 24 ≤ bAnd (E x0 x3) 63 := by clear h; omega
    clear hs0
    obtain ⟨h0, h⟩ := h
    by_cases hs0 : bAnd (E x0 x3) 63 = 24
    · refine s_tableIn (tgt := 906) (off := 873) 21 rfl ⟨by rw [hs0]; decide, by rw [hs0]; decide⟩ (by rw [hs0]; rfl) rfl ?_
      replace h := h0 hs0
      refine PW.pick [0, 1, 2, 3] rfl ?_
      exact h
    clear h0
    replace gl : 25 ≤ bAnd (E x0 x3) 63 := by clear h; omega
    clear hs0
    obtain ⟨h0, h⟩ := h
    by_cases hs0 : bAnd (E x0 x3) 63 = 25
    · refine s_tableIn (tgt := 959) (off := 926) 21 rfl ⟨by rw [hs0]; decide, by rw [hs0]; decide⟩ (by rw [hs0]; rfl) rfl ?_
      replace h := h0 hs0
      refine PW.pick [0, 1, 2, 3] rfl ?_
      exact h
    clear h0
    replace gl : 26 ≤ bAnd (E x0 x3) 63 := by clear h; omega
    clear hs0
    obtain ⟨h0, h⟩ := h
    by_cases hs0 : bAnd (E x0 x3) 63 = 26
    · refine s_tableIn (tgt := 1002) (off := 969) 21 rfl ⟨by rw [hs0]; decide, by rw [hs0]; decide⟩ (by rw [hs0]; rfl) rfl ?_
      replace h := h0 hs0
      refine PW.pick [0, 1, 2, 3] rfl ?_
      exact h
    clear h0
    replace gl : 27 ≤ bAnd (E x0 x3) 63 := by clear h; omega
    clear hs0
    obtain ⟨h0, h⟩ := h
    by_cases hs0 : bAnd (E x0 x3) 63 = 27
    · refine s_tableIn (tgt := 1055) (off := 1022) 21 rfl ⟨by rw [hs0]; decide, by rw [hs0]; decide⟩ (by rw [hs0]; rfl) rfl ?_
      replace h := h0 hs0
      refine PW.pick [0, 1, 2, 3] rfl ?_
      exact h
    clear h0
    replace gl : 28 ≤ bAnd (E x0 x3) 63 := by clear h; omega
    clear hs0
    obtain ⟨h0, h⟩ := h
    by_cases hs0 : bAnd (E x0 x3) 63 = 28
    · refine s_tableIn (tgt := 1088) (off := 1055) 21 rfl ⟨by rw [hs0]; decide, by rw [hs0]; decide⟩ (by rw [hs0]; rfl) rfl ?_
      replace h := h0 hs0
      refine PW.pick [0, 1, 2, 3] rfl ?_
      exact h
    clear h0
    replace gl : 29 ≤ bAnd (E x0 x3) 63 := by clear h; omega
    clear hs0
    obtain ⟨h0, h⟩ := h
    by_cases hs0 : bAnd (E x0 x3) 63 = 29
    · refine s_tableIn (tgt := 1101) (off := 1068) 21 rfl ⟨by rw [hs0]; decide, by rw [hs0]; decide⟩ (by rw [hs0]; rfl) rfl ?_
      replace h := h0 hs0
      refine PW.pick [0, 1, 2, 3] rfl ?_
      exact h
    clear h0
    replace gl : 30 ≤ bAnd (E x0 x3) 63 := by clear h; omega
    clear hs0
    obtain ⟨h0, h⟩ := h
    by_cases hs0 : bAnd (E x0 x3) 63 = 30
    · refine s_tableIn (tgt := 1124) (off := 1091) 21 rfl ⟨by rw [hs0]; decide, by rw [hs0]; decide⟩ (by rw [hs0]; rfl) rfl ?_
      replace h := h0 hs0
      refine PW.pick [0, 1, 2, 3] rfl ?_
      exact h
    clear h0
    replace gl : 31 ≤ bAnd (E x0 x3) 63 := by clear h; omega
    clear hs0
    obtain ⟨h0, h⟩ := h
    by_cases hs0 : bAnd (E x0 x3) 63 = 31
    · refine s_tableIn (tgt := 1147) (off := 1114) 21 rfl ⟨by rw [hs0]; decide, by rw [hs0]; decide⟩ (by rw [hs0]; rfl) rfl ?_
      replace h := h0 hs0
      refine PW.pick [0, 1, 2, 3] rfl ?_
      exact h
    clear h0
    replace gl : 32 ≤ bAnd (E x0 x3) 63 := by clear h; omega
    clear hs0
    obtain ⟨h0, h⟩ := h
    by_cases hs0 : bAnd (E x0 x3) 63 = 32
    · refine s_tableIn (tgt := 1181) (off := 1148) 21 rfl ⟨by rw [hs0]; decide, by rw [hs0]; decide⟩ (by rw [hs0]; rfl) rfl ?_
      replace h := h0 hs0
      refine PW.pick [0, 1, 2, 3] rfl ?_
      exact h
    clear h0
    replace gl : 33 ≤ bAnd (E x0 x3) 63 := by clear h; omega
    clear hs0
    obtain ⟨h0, h⟩ := h
    by_cases hs0 : bAnd (E x0 x3) 63 = 33
    · refine s_tableIn (tgt := 1234) (off := 1201) 21 rfl ⟨by rw [hs0]; decide, by rw [hs0]; decide⟩ (by rw [hs0]; rfl) rfl ?_
      replace h := h0 hs0
      refine PW.pick [0, 1, 2, 3] rfl ?_
      exact h
    clear h0
    replace gl : 34 ≤ bAnd (E x0 x3) 63 := by clear h; omega
    clear hs0
    obtain ⟨h0, h⟩ := h
    by_cases hs0 : bAnd (E x0 x3) 63 = 34
    · refine s_tableIn (tgt := 1267) (off := 1234) 21 rfl ⟨by rw [hs0]; decide, by rw [hs0]; decide⟩ (by rw [hs0]; rfl) rfl ?_
      replace h := h0 hs0
      refine PW.pick [0, 1, 2, 3] rfl ?_
      exact h
    clear h0
    replace gl : 35 ≤ bAnd (E x0 x3) 63 := by clear h; omega
    clear hs0
    obtain ⟨h0, h⟩ := h
    by_cases hs0 : bAnd (E x0 x3) 63 = 35
    · refine s_tableIn (tgt := 1300) (off := 1267) 21 rfl ⟨by rw [hs0]; decide, by rw [hs0]; decide⟩ (by rw [hs0]; rfl) rfl ?_
      replace h := h0 hs0
      refine PW.pick [0, 1, 2, 3] rfl ?_
      exact h
    clear h0
    replace gl : 36 ≤ bAnd (E x0 x3) 63 := by clear h; omega
    clear hs0
    obtain ⟨h0, h⟩ := h
    by_cases hs0 : bAnd (E x0 x3) 63 = 36
    · refine s_tableIn (tgt := 1323) (off := 1290) 21 rfl ⟨by rw [hs0]; decide, by rw [hs0]; decide⟩ (by rw [hs0]; rfl) rfl ?_
      replace h := h0 hs0
      refine PW.pick [0, 1, 2, 3] rfl ?_
      exact h
    clear h0
    replace gl : 37 ≤ bAnd (E x0 x3) 63 := by clear h; omega
    clear hs0
    obtain ⟨h0, h⟩ := h
    by_cases hs0 : bAnd (E x0 x3) 63 = 37
    · refine s_tableIn (tgt := 1346) (off := 1313) 21 rfl ⟨by rw [hs0]; decide, by rw [hs0]; decide⟩ (by rw [hs0]; rfl) rfl ?_
      replace h := h0 hs0
      refine PW.pick [0, 1, 2, 3] rfl ?_
      exact h
    clear h0
    replace gl : 38 ≤ bAnd (E x0 x3) 63 := by clear h; omega
    clear hs0
    have h0 := h
    by_cases hs0 : bAnd (E x0 x3) 63 = 38
    · refine s_tableIn (tgt := 1369) (off := 1336) 21 rfl ⟨by rw [hs0]; decide, by rw [hs0]; decide⟩ (by rw [hs0]; rfl) rfl ?_
      replace h := h0 hs0
      refine PW.pick [0, 1, 2, 3] rfl ?_
      exact h
    clear h0
    replace gl : 39 ≤ bAnd (E x0 x3) 63 := by clear h; omega
    clear hs0
    clear h
    exfalso
    omega
set_option maxRecDepth 100000 in
theorem vL_law_204 {l : Launch} {G : pG} {bg : Nat × Nat} {n : Nat} {K : Int → Nat × Nat} {F E : Int → Int → Int} {Q : Option pV → pM → Prop} (x0 x1 x2 x3 : Int) (h : (-2147483648 ≤ x3 + 1 ∧ x3 + 1 < 2147483648) ∧ (K x0).1 = 20 ∧ ((0 : Int) ≤ x3 + 1 ∧ x3 + 1 < ((K x0).2 : Int)) ∧ (-2147483648 ≤ x3 + 2 ∧ x3 + 2 < 2147483648) ∧ ((0 : Int) ≤ x3 + 2 ∧ x3 + 2 < ((K x0).2 : Int)) ∧ (-2147483648 ≤ x3 + 3 ∧ x3 + 3 < 2147483648) ∧ ((0 : Int) ≤ x3 + 3 ∧ x3 + 3 < ((K x0).2 : Int)) ∧ (-2147483648 ≤ x3 + 4 ∧ x3 + 4 < 2147483648) ∧ ((0 : Int) ≤ x3 + 4 ∧ x3 + 4 < ((K x0).2 : Int)) ∧ (K x1).1 = 11 ∧ PC l G 2 mX11_join (0, 0) [(2, x1), (0, E x0 (x3 + 1)), (0, E x0 (x3 + 2)), (0, E x0 (x3 + 3)), (0, E x0 (x3 + 4))] (n, K, F, E) (fun r μ => PW l G 84 mL_law bg 228 [(0, (2, x0)), (1, (2, x1)), (2, (2, x2)), (3, (0, x3))] (r.toList ++ []) μ Q)) : PW l G 84 mL_law bg 204 [(0, (2, x0)), (1, (2, x1)), (2, (2, x2)), (3, (0, x3))] [] (n, K, F, E) Q := by
  refine s_aload_n (q := 205) 22 1 rfl rfl ?_
  refine s_aload_n (q := 206) 23 0 rfl rfl ?_
  refine s_iload_n (q := 207) 24 3 rfl rfl ?_
  refine s_iconst (q := 208) 25 rfl ?_
  obtain ⟨c1, h⟩ := h
  refine n_iadd (q := 209) 26 rfl c1 ?_
  obtain ⟨c2, h⟩ := h
  obtain ⟨c3, h⟩ := h
  refine n_iald (q := 210) 27 rfl c2 c3 ?_
  refine s_aload_n (q := 211) 28 0 rfl rfl ?_
  refine s_iload_n (q := 212) 29 3 rfl rfl ?_
  refine s_iconst (q := 213) 30 rfl ?_
  obtain ⟨c4, h⟩ := h
  refine n_iadd (q := 214) 31 rfl c4 ?_
  obtain ⟨c5, h⟩ := h
  refine n_iald (q := 215) 32 rfl c2 c5 ?_
  refine s_aload_n (q := 216) 33 0 rfl rfl ?_
  refine s_iload_n (q := 217) 34 3 rfl rfl ?_
  refine s_iconst (q := 218) 35 rfl ?_
  obtain ⟨c6, h⟩ := h
  refine n_iadd (q := 219) 36 rfl c6 ?_
  obtain ⟨c7, h⟩ := h
  refine n_iald (q := 220) 37 rfl c2 c7 ?_
  refine s_aload_n (q := 221) 38 0 rfl rfl ?_
  refine s_iload_n (q := 222) 39 3 rfl rfl ?_
  refine s_iconst (q := 223) 40 rfl ?_
  obtain ⟨c8, h⟩ := h
  refine n_iadd (q := 224) 41 rfl c8 ?_
  obtain ⟨c9, h⟩ := h
  refine n_iald (q := 225) 42 rfl c2 c9 ?_
  obtain ⟨c10, h⟩ := h
  refine PW.pick [0, 1, 2, 3] rfl ?_
  exact n_callV (N := mX11_join) (as := [(0, E x0 (x3 + 1)), (0, E x0 (x3 + 2)), (0, E x0 (x3 + 3)), (0, E x0 (x3 + 4))]) (st := []) (q := 228) (d' := 2) 43 rfl uX11_join kL_13 rfl c10 h
set_option maxRecDepth 100000 in
theorem vL_law_257 {l : Launch} {G : pG} {bg : Nat × Nat} {n : Nat} {K : Int → Nat × Nat} {F E : Int → Int → Int} {Q : Option pV → pM → Prop} (x0 x1 x2 x3 : Int) (h : (-2147483648 ≤ x3 + 1 ∧ x3 + 1 < 2147483648) ∧ (K x0).1 = 20 ∧ ((0 : Int) ≤ x3 + 1 ∧ x3 + 1 < ((K x0).2 : Int)) ∧ (-2147483648 ≤ x3 + 2 ∧ x3 + 2 < 2147483648) ∧ ((0 : Int) ≤ x3 + 2 ∧ x3 + 2 < ((K x0).2 : Int)) ∧ (-2147483648 ≤ x3 + 3 ∧ x3 + 3 < 2147483648) ∧ ((0 : Int) ≤ x3 + 3 ∧ x3 + 3 < ((K x0).2 : Int)) ∧ (-2147483648 ≤ x3 + 4 ∧ x3 + 4 < 2147483648) ∧ ((0 : Int) ≤ x3 + 4 ∧ x3 + 4 < ((K x0).2 : Int)) ∧ (K x1).1 = 11 ∧ PC l G 2 mX11_filter (0, 0) [(2, x1), (0, E x0 (x3 + 1)), (0, E x0 (x3 + 2)), (0, E x0 (x3 + 3)), (0, E x0 (x3 + 4))] (n, K, F, E) (fun r μ => PW l G 84 mL_law bg 281 [(0, (2, x0)), (1, (2, x1)), (2, (2, x2)), (3, (0, x3))] (r.toList ++ []) μ Q)) : PW l G 84 mL_law bg 257 [(0, (2, x0)), (1, (2, x1)), (2, (2, x2)), (3, (0, x3))] [] (n, K, F, E) Q := by
  refine s_aload_n (q := 258) 69 1 rfl rfl ?_
  refine s_aload_n (q := 259) 70 0 rfl rfl ?_
  refine s_iload_n (q := 260) 71 3 rfl rfl ?_
  refine s_iconst (q := 261) 72 rfl ?_
  obtain ⟨c1, h⟩ := h
  refine n_iadd (q := 262) 73 rfl c1 ?_
  obtain ⟨c2, h⟩ := h
  obtain ⟨c3, h⟩ := h
  refine n_iald (q := 263) 74 rfl c2 c3 ?_
  refine s_aload_n (q := 264) 75 0 rfl rfl ?_
  refine s_iload_n (q := 265) 76 3 rfl rfl ?_
  refine s_iconst (q := 266) 77 rfl ?_
  obtain ⟨c4, h⟩ := h
  refine n_iadd (q := 267) 78 rfl c4 ?_
  obtain ⟨c5, h⟩ := h
  refine n_iald (q := 268) 79 rfl c2 c5 ?_
  refine s_aload_n (q := 269) 80 0 rfl rfl ?_
  refine s_iload_n (q := 270) 81 3 rfl rfl ?_
  refine s_iconst (q := 271) 82 rfl ?_
  obtain ⟨c6, h⟩ := h
  refine n_iadd (q := 272) 83 rfl c6 ?_
  obtain ⟨c7, h⟩ := h
  refine n_iald (q := 273) 84 rfl c2 c7 ?_
  refine s_aload_n (q := 274) 85 0 rfl rfl ?_
  refine s_iload_n (q := 275) 86 3 rfl rfl ?_
  refine s_iconst (q := 276) 87 rfl ?_
  obtain ⟨c8, h⟩ := h
  refine n_iadd (q := 277) 88 rfl c8 ?_
  obtain ⟨c9, h⟩ := h
  refine n_iald (q := 278) 89 rfl c2 c9 ?_
  obtain ⟨c10, h⟩ := h
  refine PW.pick [0, 1, 2, 3] rfl ?_
  exact n_callV (N := mX11_filter) (as := [(0, E x0 (x3 + 1)), (0, E x0 (x3 + 2)), (0, E x0 (x3 + 3)), (0, E x0 (x3 + 4))]) (st := []) (q := 281) (d' := 2) 90 rfl uX11_filter kL_18 rfl c10 h
set_option maxRecDepth 100000 in
theorem vL_law_310 {l : Launch} {G : pG} {bg : Nat × Nat} {n : Nat} {K : Int → Nat × Nat} {F E : Int → Int → Int} {Q : Option pV → pM → Prop} (x0 x1 x2 x3 : Int) (h : (-2147483648 ≤ x3 + 1 ∧ x3 + 1 < 2147483648) ∧ (K x0).1 = 20 ∧ ((0 : Int) ≤ x3 + 1 ∧ x3 + 1 < ((K x0).2 : Int)) ∧ (-2147483648 ≤ x3 + 2 ∧ x3 + 2 < 2147483648) ∧ ((0 : Int) ≤ x3 + 2 ∧ x3 + 2 < ((K x0).2 : Int)) ∧ (K x1).1 = 11 ∧ PC l G 1 mX11_operator (0, 0) [(2, x1), (0, E x0 (x3 + 1)), (0, E x0 (x3 + 2))] (n, K, F, E) (fun r μ => PW l G 84 mL_law bg 324 [(0, (2, x0)), (1, (2, x1)), (2, (2, x2)), (3, (0, x3))] (r.toList ++ []) μ Q)) : PW l G 84 mL_law bg 310 [(0, (2, x0)), (1, (2, x1)), (2, (2, x2)), (3, (0, x3))] [] (n, K, F, E) Q := by
  refine s_aload_n (q := 311) 116 1 rfl rfl ?_
  refine s_aload_n (q := 312) 117 0 rfl rfl ?_
  refine s_iload_n (q := 313) 118 3 rfl rfl ?_
  refine s_iconst (q := 314) 119 rfl ?_
  obtain ⟨c1, h⟩ := h
  refine n_iadd (q := 315) 120 rfl c1 ?_
  obtain ⟨c2, h⟩ := h
  obtain ⟨c3, h⟩ := h
  refine n_iald (q := 316) 121 rfl c2 c3 ?_
  refine s_aload_n (q := 317) 122 0 rfl rfl ?_
  refine s_iload_n (q := 318) 123 3 rfl rfl ?_
  refine s_iconst (q := 319) 124 rfl ?_
  obtain ⟨c4, h⟩ := h
  refine n_iadd (q := 320) 125 rfl c4 ?_
  obtain ⟨c5, h⟩ := h
  refine n_iald (q := 321) 126 rfl c2 c5 ?_
  obtain ⟨c6, h⟩ := h
  refine PW.pick [0, 1, 2, 3] rfl ?_
  exact n_callV (N := mX11_operator) (as := [(0, E x0 (x3 + 1)), (0, E x0 (x3 + 2))]) (st := []) (q := 324) (d' := 1) 127 rfl uX11_operator kL_22 rfl c6 h
set_option maxRecDepth 100000 in
theorem vL_law_343 {l : Launch} {G : pG} {bg : Nat × Nat} {n : Nat} {K : Int → Nat × Nat} {F E : Int → Int → Int} {Q : Option pV → pM → Prop} (x0 x1 x2 x3 : Int) (h : (-2147483648 ≤ x3 + 1 ∧ x3 + 1 < 2147483648) ∧ (K x0).1 = 20 ∧ ((0 : Int) ≤ x3 + 1 ∧ x3 + 1 < ((K x0).2 : Int)) ∧ (-2147483648 ≤ x3 + 2 ∧ x3 + 2 < 2147483648) ∧ ((0 : Int) ≤ x3 + 2 ∧ x3 + 2 < ((K x0).2 : Int)) ∧ (K x1).1 = 11 ∧ PC l G 1 mX11_relation (0, 0) [(2, x1), (0, E x0 (x3 + 1)), (0, E x0 (x3 + 2))] (n, K, F, E) (fun r μ => PW l G 84 mL_law bg 357 [(0, (2, x0)), (1, (2, x1)), (2, (2, x2)), (3, (0, x3))] (r.toList ++ []) μ Q)) : PW l G 84 mL_law bg 343 [(0, (2, x0)), (1, (2, x1)), (2, (2, x2)), (3, (0, x3))] [] (n, K, F, E) Q := by
  refine s_aload_n (q := 344) 143 1 rfl rfl ?_
  refine s_aload_n (q := 345) 144 0 rfl rfl ?_
  refine s_iload_n (q := 346) 145 3 rfl rfl ?_
  refine s_iconst (q := 347) 146 rfl ?_
  obtain ⟨c1, h⟩ := h
  refine n_iadd (q := 348) 147 rfl c1 ?_
  obtain ⟨c2, h⟩ := h
  obtain ⟨c3, h⟩ := h
  refine n_iald (q := 349) 148 rfl c2 c3 ?_
  refine s_aload_n (q := 350) 149 0 rfl rfl ?_
  refine s_iload_n (q := 351) 150 3 rfl rfl ?_
  refine s_iconst (q := 352) 151 rfl ?_
  obtain ⟨c4, h⟩ := h
  refine n_iadd (q := 353) 152 rfl c4 ?_
  obtain ⟨c5, h⟩ := h
  refine n_iald (q := 354) 153 rfl c2 c5 ?_
  obtain ⟨c6, h⟩ := h
  refine PW.pick [0, 1, 2, 3] rfl ?_
  exact n_callV (N := mX11_relation) (as := [(0, E x0 (x3 + 1)), (0, E x0 (x3 + 2))]) (st := []) (q := 357) (d' := 1) 154 rfl uX11_relation kL_27 rfl c6 h
set_option maxRecDepth 100000 in
theorem vL_law_376 {l : Launch} {G : pG} {bg : Nat × Nat} {n : Nat} {K : Int → Nat × Nat} {F E : Int → Int → Int} {Q : Option pV → pM → Prop} (x0 x1 x2 x3 : Int) (h : (-2147483648 ≤ x3 + 1 ∧ x3 + 1 < 2147483648) ∧ (K x0).1 = 20 ∧ ((0 : Int) ≤ x3 + 1 ∧ x3 + 1 < ((K x0).2 : Int)) ∧ (-2147483648 ≤ x3 + 2 ∧ x3 + 2 < 2147483648) ∧ ((0 : Int) ≤ x3 + 2 ∧ x3 + 2 < ((K x0).2 : Int)) ∧ (-2147483648 ≤ x3 + 3 ∧ x3 + 3 < 2147483648) ∧ ((0 : Int) ≤ x3 + 3 ∧ x3 + 3 < ((K x0).2 : Int)) ∧ (K x1).1 = 11 ∧ PC l G 1 mX11_tuple (0, 0) [(2, x1), (0, E x0 (x3 + 1)), (0, E x0 (x3 + 2)), (0, E x0 (x3 + 3))] (n, K, F, E) (fun r μ => PW l G 84 mL_law bg 395 [(0, (2, x0)), (1, (2, x1)), (2, (2, x2)), (3, (0, x3))] (r.toList ++ []) μ Q)) : PW l G 84 mL_law bg 376 [(0, (2, x0)), (1, (2, x1)), (2, (2, x2)), (3, (0, x3))] [] (n, K, F, E) Q := by
  refine s_aload_n (q := 377) 170 1 rfl rfl ?_
  refine s_aload_n (q := 378) 171 0 rfl rfl ?_
  refine s_iload_n (q := 379) 172 3 rfl rfl ?_
  refine s_iconst (q := 380) 173 rfl ?_
  obtain ⟨c1, h⟩ := h
  refine n_iadd (q := 381) 174 rfl c1 ?_
  obtain ⟨c2, h⟩ := h
  obtain ⟨c3, h⟩ := h
  refine n_iald (q := 382) 175 rfl c2 c3 ?_
  refine s_aload_n (q := 383) 176 0 rfl rfl ?_
  refine s_iload_n (q := 384) 177 3 rfl rfl ?_
  refine s_iconst (q := 385) 178 rfl ?_
  obtain ⟨c4, h⟩ := h
  refine n_iadd (q := 386) 179 rfl c4 ?_
  obtain ⟨c5, h⟩ := h
  refine n_iald (q := 387) 180 rfl c2 c5 ?_
  refine s_aload_n (q := 388) 181 0 rfl rfl ?_
  refine s_iload_n (q := 389) 182 3 rfl rfl ?_
  refine s_iconst (q := 390) 183 rfl ?_
  obtain ⟨c6, h⟩ := h
  refine n_iadd (q := 391) 184 rfl c6 ?_
  obtain ⟨c7, h⟩ := h
  refine n_iald (q := 392) 185 rfl c2 c7 ?_
  obtain ⟨c8, h⟩ := h
  refine PW.pick [0, 1, 2, 3] rfl ?_
  exact n_callV (N := mX11_tuple) (as := [(0, E x0 (x3 + 1)), (0, E x0 (x3 + 2)), (0, E x0 (x3 + 3))]) (st := []) (q := 395) (d' := 1) 186 rfl uX11_tuple kL_31 rfl c8 h
set_option maxRecDepth 100000 in
theorem vL_law_419 {l : Launch} {G : pG} {bg : Nat × Nat} {n : Nat} {K : Int → Nat × Nat} {F E : Int → Int → Int} {Q : Option pV → pM → Prop} (x0 x1 x2 x3 : Int) (h : (-2147483648 ≤ x3 + 1 ∧ x3 + 1 < 2147483648) ∧ (K x0).1 = 20 ∧ ((0 : Int) ≤ x3 + 1 ∧ x3 + 1 < ((K x0).2 : Int)) ∧ (-2147483648 ≤ x3 + 2 ∧ x3 + 2 < 2147483648) ∧ ((0 : Int) ≤ x3 + 2 ∧ x3 + 2 < ((K x0).2 : Int)) ∧ (K x1).1 = 11 ∧ PC l G 1 mX11_terms (0, 0) [(2, x1), (0, E x0 (x3 + 1)), (0, E x0 (x3 + 2))] (n, K, F, E) (fun r μ => PW l G 84 mL_law bg 433 [(0, (2, x0)), (1, (2, x1)), (2, (2, x2)), (3, (0, x3))] (r.toList ++ []) μ Q)) : PW l G 84 mL_law bg 419 [(0, (2, x0)), (1, (2, x1)), (2, (2, x2)), (3, (0, x3))] [] (n, K, F, E) Q := by
  refine s_aload_n (q := 420) 207 1 rfl rfl ?_
  refine s_aload_n (q := 421) 208 0 rfl rfl ?_
  refine s_iload_n (q := 422) 209 3 rfl rfl ?_
  refine s_iconst (q := 423) 210 rfl ?_
  obtain ⟨c1, h⟩ := h
  refine n_iadd (q := 424) 211 rfl c1 ?_
  obtain ⟨c2, h⟩ := h
  obtain ⟨c3, h⟩ := h
  refine n_iald (q := 425) 212 rfl c2 c3 ?_
  refine s_aload_n (q := 426) 213 0 rfl rfl ?_
  refine s_iload_n (q := 427) 214 3 rfl rfl ?_
  refine s_iconst (q := 428) 215 rfl ?_
  obtain ⟨c4, h⟩ := h
  refine n_iadd (q := 429) 216 rfl c4 ?_
  obtain ⟨c5, h⟩ := h
  refine n_iald (q := 430) 217 rfl c2 c5 ?_
  obtain ⟨c6, h⟩ := h
  refine PW.pick [0, 1, 2, 3] rfl ?_
  exact n_callV (N := mX11_terms) (as := [(0, E x0 (x3 + 1)), (0, E x0 (x3 + 2))]) (st := []) (q := 433) (d' := 1) 218 rfl uX11_terms kL_36 rfl c6 h
set_option maxRecDepth 100000 in
theorem vL_law_452 {l : Launch} {G : pG} {bg : Nat × Nat} {n : Nat} {K : Int → Nat × Nat} {F E : Int → Int → Int} {Q : Option pV → pM → Prop} (x0 x1 x2 x3 : Int) (h : (-2147483648 ≤ x3 + 1 ∧ x3 + 1 < 2147483648) ∧ (K x0).1 = 20 ∧ ((0 : Int) ≤ x3 + 1 ∧ x3 + 1 < ((K x0).2 : Int)) ∧ (-2147483648 ≤ x3 + 2 ∧ x3 + 2 < 2147483648) ∧ ((0 : Int) ≤ x3 + 2 ∧ x3 + 2 < ((K x0).2 : Int)) ∧ (-2147483648 ≤ x3 + 3 ∧ x3 + 3 < 2147483648) ∧ ((0 : Int) ≤ x3 + 3 ∧ x3 + 3 < ((K x0).2 : Int)) ∧ (-2147483648 ≤ x3 + 4 ∧ x3 + 4 < 2147483648) ∧ ((0 : Int) ≤ x3 + 4 ∧ x3 + 4 < ((K x0).2 : Int)) ∧ (-2147483648 ≤ x3 + 5 ∧ x3 + 5 < 2147483648) ∧ ((0 : Int) ≤ x3 + 5 ∧ x3 + 5 < ((K x0).2 : Int)) ∧ (K x1).1 = 11 ∧ PC l G 1 mX11_feed (0, 0) [(2, x1), (0, E x0 (x3 + 1)), (0, E x0 (x3 + 2)), (0, E x0 (x3 + 3)), (0, E x0 (x3 + 4)), (0, E x0 (x3 + 5))] (n, K, F, E) (fun r μ => PW l G 84 mL_law bg 481 [(0, (2, x0)), (1, (2, x1)), (2, (2, x2)), (3, (0, x3))] (r.toList ++ []) μ Q)) : PW l G 84 mL_law bg 452 [(0, (2, x0)), (1, (2, x1)), (2, (2, x2)), (3, (0, x3))] [] (n, K, F, E) Q := by
  refine s_aload_n (q := 453) 234 1 rfl rfl ?_
  refine s_aload_n (q := 454) 235 0 rfl rfl ?_
  refine s_iload_n (q := 455) 236 3 rfl rfl ?_
  refine s_iconst (q := 456) 237 rfl ?_
  obtain ⟨c1, h⟩ := h
  refine n_iadd (q := 457) 238 rfl c1 ?_
  obtain ⟨c2, h⟩ := h
  obtain ⟨c3, h⟩ := h
  refine n_iald (q := 458) 239 rfl c2 c3 ?_
  refine s_aload_n (q := 459) 240 0 rfl rfl ?_
  refine s_iload_n (q := 460) 241 3 rfl rfl ?_
  refine s_iconst (q := 461) 242 rfl ?_
  obtain ⟨c4, h⟩ := h
  refine n_iadd (q := 462) 243 rfl c4 ?_
  obtain ⟨c5, h⟩ := h
  refine n_iald (q := 463) 244 rfl c2 c5 ?_
  refine s_aload_n (q := 464) 245 0 rfl rfl ?_
  refine s_iload_n (q := 465) 246 3 rfl rfl ?_
  refine s_iconst (q := 466) 247 rfl ?_
  obtain ⟨c6, h⟩ := h
  refine n_iadd (q := 467) 248 rfl c6 ?_
  obtain ⟨c7, h⟩ := h
  refine n_iald (q := 468) 249 rfl c2 c7 ?_
  refine s_aload_n (q := 469) 250 0 rfl rfl ?_
  refine s_iload_n (q := 470) 251 3 rfl rfl ?_
  refine s_iconst (q := 471) 252 rfl ?_
  obtain ⟨c8, h⟩ := h
  refine n_iadd (q := 472) 253 rfl c8 ?_
  obtain ⟨c9, h⟩ := h
  refine n_iald (q := 473) 254 rfl c2 c9 ?_
  refine s_aload_n (q := 474) 255 0 rfl rfl ?_
  refine s_iload_n (q := 475) 256 3 rfl rfl ?_
  refine s_iconst (q := 476) 257 rfl ?_
  obtain ⟨c10, h⟩ := h
  refine n_iadd (q := 477) 258 rfl c10 ?_
  obtain ⟨c11, h⟩ := h
  refine n_iald (q := 478) 259 rfl c2 c11 ?_
  obtain ⟨c12, h⟩ := h
  refine PW.pick [0, 1, 2, 3] rfl ?_
  exact n_callV (N := mX11_feed) (as := [(0, E x0 (x3 + 1)), (0, E x0 (x3 + 2)), (0, E x0 (x3 + 3)), (0, E x0 (x3 + 4)), (0, E x0 (x3 + 5))]) (st := []) (q := 481) (d' := 1) 260 rfl uX11_feed kL_40 rfl c12 h
set_option maxRecDepth 100000 in
theorem vL_law_515 {l : Launch} {G : pG} {bg : Nat × Nat} {n : Nat} {K : Int → Nat × Nat} {F E : Int → Int → Int} {Q : Option pV → pM → Prop} (x0 x1 x2 x3 : Int) (h : (-2147483648 ≤ x3 + 1 ∧ x3 + 1 < 2147483648) ∧ (K x0).1 = 20 ∧ ((0 : Int) ≤ x3 + 1 ∧ x3 + 1 < ((K x0).2 : Int)) ∧ (K x1).1 = 11 ∧ PC l G 0 mX11_end (0, 0) [(2, x1), (0, E x0 (x3 + 1))] (n, K, F, E) (fun r μ => PW l G 84 mL_law bg 524 [(0, (2, x0)), (1, (2, x1)), (2, (2, x2)), (3, (0, x3))] (r.toList ++ []) μ Q)) : PW l G 84 mL_law bg 515 [(0, (2, x0)), (1, (2, x1)), (2, (2, x2)), (3, (0, x3))] [] (n, K, F, E) Q := by
  refine s_aload_n (q := 516) 291 1 rfl rfl ?_
  refine s_aload_n (q := 517) 292 0 rfl rfl ?_
  refine s_iload_n (q := 518) 293 3 rfl rfl ?_
  refine s_iconst (q := 519) 294 rfl ?_
  obtain ⟨c1, h⟩ := h
  refine n_iadd (q := 520) 295 rfl c1 ?_
  obtain ⟨c2, h⟩ := h
  obtain ⟨c3, h⟩ := h
  refine n_iald (q := 521) 296 rfl c2 c3 ?_
  obtain ⟨c4, h⟩ := h
  refine PW.pick [0, 1, 2, 3] rfl ?_
  exact n_callV (N := mX11_end) (as := [(0, E x0 (x3 + 1))]) (st := []) (q := 524) (d' := 0) 297 rfl uX11_end kL_45 rfl c4 h
set_option maxRecDepth 100000 in
theorem vL_law_538 {l : Launch} {G : pG} {bg : Nat × Nat} {n : Nat} {K : Int → Nat × Nat} {F E : Int → Int → Int} {Q : Option pV → pM → Prop} (x0 x1 x2 x3 : Int) (h : (K x1).1 = 11 ∧ PC l G 32 mX11_row (0, 0) [(2, x1)] (n, K, F, E) (fun r μ => PW l G 84 mL_law bg 542 [(0, (2, x0)), (1, (2, x1)), (2, (2, x2)), (3, (0, x3))] (r.toList ++ []) μ Q)) : PW l G 84 mL_law bg 538 [(0, (2, x0)), (1, (2, x1)), (2, (2, x2)), (3, (0, x3))] [] (n, K, F, E) Q := by
  refine s_aload_n (q := 539) 308 1 rfl rfl ?_
  obtain ⟨c1, h⟩ := h
  refine PW.pick [0, 1, 2, 3] rfl ?_
  exact n_callV (N := mX11_row) (as := []) (st := []) (q := 542) (d' := 32) 309 rfl uX11_row kL_50 rfl c1 h
set_option maxRecDepth 100000 in
theorem vL_law_551 {l : Launch} {G : pG} {bg : Nat × Nat} {n : Nat} {K : Int → Nat × Nat} {F E : Int → Int → Int} {Q : Option pV → pM → Prop} (x0 x1 x2 x3 : Int) (h : (K x1).1 = 11 ∧ PC l G 0 mX11_strays (0, 0) [(2, x1)] (n, K, F, E) (fun r μ => PW l G 84 mL_law bg 555 [(0, (2, x0)), (1, (2, x1)), (2, (2, x2)), (3, (0, x3))] (r.toList ++ []) μ Q)) : PW l G 84 mL_law bg 551 [(0, (2, x0)), (1, (2, x1)), (2, (2, x2)), (3, (0, x3))] [] (n, K, F, E) Q := by
  refine s_aload_n (q := 552) 315 1 rfl rfl ?_
  obtain ⟨c1, h⟩ := h
  refine PW.pick [0, 1, 2, 3] rfl ?_
  exact n_callV (N := mX11_strays) (as := []) (st := []) (q := 555) (d' := 0) 316 rfl uX11_strays kL_55 rfl c1 h
set_option maxRecDepth 100000 in
theorem vL_law_564 {l : Launch} {G : pG} {bg : Nat × Nat} {n : Nat} {K : Int → Nat × Nat} {F E : Int → Int → Int} {Q : Option pV → pM → Prop} (x0 x1 x2 x3 : Int) (h : (K x1).1 = 11 ∧ (3 ≤ bg.1 ∧ 876 ≤ bg.2) ∧ PC l G 83 mX11_law (3, 876) [(2, x1)] (n, K, F, E) (fun r μ => PW l G 84 mL_law (bg.1 - (3, 876).1, bg.2 - (3, 876).2) 568 [(0, (2, x0)), (1, (2, x1)), (2, (2, x2)), (3, (0, x3))] (r.toList ++ []) μ Q)) : PW l G 84 mL_law bg 564 [(0, (2, x0)), (1, (2, x1)), (2, (2, x2)), (3, (0, x3))] [] (n, K, F, E) Q := by
  refine s_aload_n (q := 565) 322 1 rfl rfl ?_
  obtain ⟨c1, h⟩ := h
  obtain ⟨c2, h⟩ := h
  refine PW.pick [0, 1, 2, 3] rfl ?_
  exact s_callV (b' := (3, 876)) (N := mX11_law) (as := []) (st := []) (q := 568) (d' := 83) 323 rfl uX11_law kL_59 rfl (pK2 c1) h (hb := c2)
set_option maxRecDepth 100000 in
theorem vL_law_577 {l : Launch} {G : pG} {bg : Nat × Nat} {n : Nat} {K : Int → Nat × Nat} {F E : Int → Int → Int} {Q : Option pV → pM → Prop} (x0 x1 x2 x3 : Int) (h : (K x1).1 = 11 ∧ PC l G 83 mX11_orders (0, 0) [(2, x1)] (n, K, F, E) (fun r μ => PW l G 84 mL_law bg 581 [(0, (2, x0)), (1, (2, x1)), (2, (2, x2)), (3, (0, x3))] (r.toList ++ []) μ Q)) : PW l G 84 mL_law bg 577 [(0, (2, x0)), (1, (2, x1)), (2, (2, x2)), (3, (0, x3))] [] (n, K, F, E) Q := by
  refine s_aload_n (q := 578) 329 1 rfl rfl ?_
  obtain ⟨c1, h⟩ := h
  refine PW.pick [0, 1, 2, 3] rfl ?_
  exact n_callV (N := mX11_orders) (as := []) (st := []) (q := 581) (d' := 83) 330 rfl uX11_orders kL_63 rfl c1 h
set_option maxRecDepth 100000 in
theorem vL_law_590 {l : Launch} {G : pG} {bg : Nat × Nat} {n : Nat} {K : Int → Nat × Nat} {F E : Int → Int → Int} {Q : Option pV → pM → Prop} (x0 x1 x2 x3 : Int) (h : (K x1).1 = 11 ∧ PC l G 0 mX11_fault (0, 0) [(2, x1)] (n, K, F, E) (fun r μ => PW l G 84 mL_law bg 594 [(0, (2, x0)), (1, (2, x1)), (2, (2, x2)), (3, (0, x3))] (r.toList ++ []) μ Q)) : PW l G 84 mL_law bg 590 [(0, (2, x0)), (1, (2, x1)), (2, (2, x2)), (3, (0, x3))] [] (n, K, F, E) Q := by
  refine s_aload_n (q := 591) 336 1 rfl rfl ?_
  obtain ⟨c1, h⟩ := h
  refine PW.pick [0, 1, 2, 3] rfl ?_
  exact n_callV (N := mX11_fault) (as := []) (st := []) (q := 594) (d' := 0) 337 rfl uX11_fault kL_67 rfl c1 h
set_option maxRecDepth 100000 in
theorem vL_law_603 {l : Launch} {G : pG} {bg : Nat × Nat} {n : Nat} {K : Int → Nat × Nat} {F E : Int → Int → Int} {Q : Option pV → pM → Prop} (x0 x1 x2 x3 : Int) (h : (K x1).1 = 11 ∧ PC l G 0 mX11_stopped (0, 0) [(2, x1)] (n, K, F, E) (fun r μ => PW l G 84 mL_law bg 607 [(0, (2, x0)), (1, (2, x1)), (2, (2, x2)), (3, (0, x3))] (r.toList ++ []) μ Q)) : PW l G 84 mL_law bg 603 [(0, (2, x0)), (1, (2, x1)), (2, (2, x2)), (3, (0, x3))] [] (n, K, F, E) Q := by
  refine s_aload_n (q := 604) 343 1 rfl rfl ?_
  obtain ⟨c1, h⟩ := h
  refine PW.pick [0, 1, 2, 3] rfl ?_
  exact n_callV (N := mX11_stopped) (as := []) (st := []) (q := 607) (d' := 0) 344 rfl uX11_stopped kL_71 rfl c1 h
set_option maxRecDepth 100000 in
theorem vL_law_616 {l : Launch} {G : pG} {bg : Nat × Nat} {n : Nat} {K : Int → Nat × Nat} {F E : Int → Int → Int} {Q : Option pV → pM → Prop} (x0 x1 x2 x3 : Int) (h : (-2147483648 ≤ x3 + 1 ∧ x3 + 1 < 2147483648) ∧ (K x0).1 = 20 ∧ ((0 : Int) ≤ x3 + 1 ∧ x3 + 1 < ((K x0).2 : Int)) ∧ (K x1).1 = 11 ∧ PC l G 1 mX11_force (0, 0) [(2, x1), (0, E x0 (x3 + 1))] (n, K, F, E) (fun r μ => PW l G 84 mL_law bg 625 [(0, (2, x0)), (1, (2, x1)), (2, (2, x2)), (3, (0, x3))] (r.toList ++ []) μ Q)) : PW l G 84 mL_law bg 616 [(0, (2, x0)), (1, (2, x1)), (2, (2, x2)), (3, (0, x3))] [] (n, K, F, E) Q := by
  refine s_aload_n (q := 617) 350 1 rfl rfl ?_
  refine s_aload_n (q := 618) 351 0 rfl rfl ?_
  refine s_iload_n (q := 619) 352 3 rfl rfl ?_
  refine s_iconst (q := 620) 353 rfl ?_
  obtain ⟨c1, h⟩ := h
  refine n_iadd (q := 621) 354 rfl c1 ?_
  obtain ⟨c2, h⟩ := h
  obtain ⟨c3, h⟩ := h
  refine n_iald (q := 622) 355 rfl c2 c3 ?_
  obtain ⟨c4, h⟩ := h
  refine PW.pick [0, 1, 2, 3] rfl ?_
  exact n_callV (N := mX11_force) (as := [(0, E x0 (x3 + 1))]) (st := []) (q := 625) (d' := 1) 356 rfl uX11_force kL_75 rfl c4 h
set_option maxRecDepth 100000 in
theorem vL_law_639 {l : Launch} {G : pG} {bg : Nat × Nat} {n : Nat} {K : Int → Nat × Nat} {F E : Int → Int → Int} {Q : Option pV → pM → Prop} (x0 x1 x2 x3 : Int) (h : (-2147483648 ≤ x3 + 1 ∧ x3 + 1 < 2147483648) ∧ (K x0).1 = 20 ∧ ((0 : Int) ≤ x3 + 1 ∧ x3 + 1 < ((K x0).2 : Int)) ∧ (-2147483648 ≤ x3 + 2 ∧ x3 + 2 < 2147483648) ∧ ((0 : Int) ≤ x3 + 2 ∧ x3 + 2 < ((K x0).2 : Int)) ∧ (-2147483648 ≤ x3 + 3 ∧ x3 + 3 < 2147483648) ∧ ((0 : Int) ≤ x3 + 3 ∧ x3 + 3 < ((K x0).2 : Int)) ∧ (K x1).1 = 11 ∧ PC l G 32 mX11_come (0, 0) [(2, x1), (0, E x0 (x3 + 1)), (0, E x0 (x3 + 2)), (0, E x0 (x3 + 3))] (n, K, F, E) (fun r μ => PW l G 84 mL_law bg 658 [(0, (2, x0)), (1, (2, x1)), (2, (2, x2)), (3, (0, x3))] (r.toList ++ []) μ Q)) : PW l G 84 mL_law bg 639 [(0, (2, x0)), (1, (2, x1)), (2, (2, x2)), (3, (0, x3))] [] (n, K, F, E) Q := by
  refine s_aload_n (q := 640) 367 1 rfl rfl ?_
  refine s_aload_n (q := 641) 368 0 rfl rfl ?_
  refine s_iload_n (q := 642) 369 3 rfl rfl ?_
  refine s_iconst (q := 643) 370 rfl ?_
  obtain ⟨c1, h⟩ := h
  refine n_iadd (q := 644) 371 rfl c1 ?_
  obtain ⟨c2, h⟩ := h
  obtain ⟨c3, h⟩ := h
  refine n_iald (q := 645) 372 rfl c2 c3 ?_
  refine s_aload_n (q := 646) 373 0 rfl rfl ?_
  refine s_iload_n (q := 647) 374 3 rfl rfl ?_
  refine s_iconst (q := 648) 375 rfl ?_
  obtain ⟨c4, h⟩ := h
  refine n_iadd (q := 649) 376 rfl c4 ?_
  obtain ⟨c5, h⟩ := h
  refine n_iald (q := 650) 377 rfl c2 c5 ?_
  refine s_aload_n (q := 651) 378 0 rfl rfl ?_
  refine s_iload_n (q := 652) 379 3 rfl rfl ?_
  refine s_iconst (q := 653) 380 rfl ?_
  obtain ⟨c6, h⟩ := h
  refine n_iadd (q := 654) 381 rfl c6 ?_
  obtain ⟨c7, h⟩ := h
  refine n_iald (q := 655) 382 rfl c2 c7 ?_
  obtain ⟨c8, h⟩ := h
  refine PW.pick [0, 1, 2, 3] rfl ?_
  exact n_callV (N := mX11_come) (as := [(0, E x0 (x3 + 1)), (0, E x0 (x3 + 2)), (0, E x0 (x3 + 3))]) (st := []) (q := 658) (d' := 32) 383 rfl uX11_come kL_79 rfl c8 h
set_option maxRecDepth 100000 in
theorem vL_law_682 {l : Launch} {G : pG} {bg : Nat × Nat} {n : Nat} {K : Int → Nat × Nat} {F E : Int → Int → Int} {Q : Option pV → pM → Prop} (x0 x1 x2 x3 : Int) (h : (-2147483648 ≤ x3 + 1 ∧ x3 + 1 < 2147483648) ∧ (K x0).1 = 20 ∧ ((0 : Int) ≤ x3 + 1 ∧ x3 + 1 < ((K x0).2 : Int)) ∧ (K x1).1 = 11 ∧ PC l G 2 mX11_strike (0, 0) [(2, x1), (0, E x0 (x3 + 1))] (n, K, F, E) (fun r μ => PW l G 84 mL_law bg 691 [(0, (2, x0)), (1, (2, x1)), (2, (2, x2)), (3, (0, x3))] (r.toList ++ []) μ Q)) : PW l G 84 mL_law bg 682 [(0, (2, x0)), (1, (2, x1)), (2, (2, x2)), (3, (0, x3))] [] (n, K, F, E) Q := by
  refine s_aload_n (q := 683) 404 1 rfl rfl ?_
  refine s_aload_n (q := 684) 405 0 rfl rfl ?_
  refine s_iload_n (q := 685) 406 3 rfl rfl ?_
  refine s_iconst (q := 686) 407 rfl ?_
  obtain ⟨c1, h⟩ := h
  refine n_iadd (q := 687) 408 rfl c1 ?_
  obtain ⟨c2, h⟩ := h
  obtain ⟨c3, h⟩ := h
  refine n_iald (q := 688) 409 rfl c2 c3 ?_
  obtain ⟨c4, h⟩ := h
  refine PW.pick [0, 1, 2, 3] rfl ?_
  exact n_callV (N := mX11_strike) (as := [(0, E x0 (x3 + 1))]) (st := []) (q := 691) (d' := 2) 410 rfl uX11_strike kL_83 rfl c4 h
set_option maxRecDepth 100000 in
theorem vL_law_705 {l : Launch} {G : pG} {bg : Nat × Nat} {n : Nat} {K : Int → Nat × Nat} {F E : Int → Int → Int} {Q : Option pV → pM → Prop} (x0 x1 x2 x3 : Int) (h : (-2147483648 ≤ x3 + 1 ∧ x3 + 1 < 2147483648) ∧ (K x0).1 = 20 ∧ ((0 : Int) ≤ x3 + 1 ∧ x3 + 1 < ((K x0).2 : Int)) ∧ (-2147483648 ≤ x3 + 2 ∧ x3 + 2 < 2147483648) ∧ ((0 : Int) ≤ x3 + 2 ∧ x3 + 2 < ((K x0).2 : Int)) ∧ (K x1).1 = 11 ∧ PC l G 3 mX11_window (0, 0) [(2, x1), (0, E x0 (x3 + 1)), (0, E x0 (x3 + 2))] (n, K, F, E) (fun r μ => PW l G 84 mL_law bg 719 [(0, (2, x0)), (1, (2, x1)), (2, (2, x2)), (3, (0, x3))] (r.toList ++ []) μ Q)) : PW l G 84 mL_law bg 705 [(0, (2, x0)), (1, (2, x1)), (2, (2, x2)), (3, (0, x3))] [] (n, K, F, E) Q := by
  refine s_aload_n (q := 706) 421 1 rfl rfl ?_
  refine s_aload_n (q := 707) 422 0 rfl rfl ?_
  refine s_iload_n (q := 708) 423 3 rfl rfl ?_
  refine s_iconst (q := 709) 424 rfl ?_
  obtain ⟨c1, h⟩ := h
  refine n_iadd (q := 710) 425 rfl c1 ?_
  obtain ⟨c2, h⟩ := h
  obtain ⟨c3, h⟩ := h
  refine n_iald (q := 711) 426 rfl c2 c3 ?_
  refine s_aload_n (q := 712) 427 0 rfl rfl ?_
  refine s_iload_n (q := 713) 428 3 rfl rfl ?_
  refine s_iconst (q := 714) 429 rfl ?_
  obtain ⟨c4, h⟩ := h
  refine n_iadd (q := 715) 430 rfl c4 ?_
  obtain ⟨c5, h⟩ := h
  refine n_iald (q := 716) 431 rfl c2 c5 ?_
  obtain ⟨c6, h⟩ := h
  refine PW.pick [0, 1, 2, 3] rfl ?_
  exact n_callV (N := mX11_window) (as := [(0, E x0 (x3 + 1)), (0, E x0 (x3 + 2))]) (st := []) (q := 719) (d' := 3) 432 rfl uX11_window kL_87 rfl c6 h
set_option maxRecDepth 100000 in
theorem vL_law_738 {l : Launch} {G : pG} {bg : Nat × Nat} {n : Nat} {K : Int → Nat × Nat} {F E : Int → Int → Int} {Q : Option pV → pM → Prop} (x0 x1 x2 x3 : Int) (h : (-2147483648 ≤ x3 + 1 ∧ x3 + 1 < 2147483648) ∧ (K x0).1 = 20 ∧ ((0 : Int) ≤ x3 + 1 ∧ x3 + 1 < ((K x0).2 : Int)) ∧ (-2147483648 ≤ x3 + 2 ∧ x3 + 2 < 2147483648) ∧ ((0 : Int) ≤ x3 + 2 ∧ x3 + 2 < ((K x0).2 : Int)) ∧ (K x1).1 = 11 ∧ PC l G 2 mX11_index (0, 0) [(2, x1), (0, E x0 (x3 + 1)), (0, E x0 (x3 + 2))] (n, K, F, E) (fun r μ => PW l G 84 mL_law bg 752 [(0, (2, x0)), (1, (2, x1)), (2, (2, x2)), (3, (0, x3))] (r.toList ++ []) μ Q)) : PW l G 84 mL_law bg 738 [(0, (2, x0)), (1, (2, x1)), (2, (2, x2)), (3, (0, x3))] [] (n, K, F, E) Q := by
  refine s_aload_n (q := 739) 448 1 rfl rfl ?_
  refine s_aload_n (q := 740) 449 0 rfl rfl ?_
  refine s_iload_n (q := 741) 450 3 rfl rfl ?_
  refine s_iconst (q := 742) 451 rfl ?_
  obtain ⟨c1, h⟩ := h
  refine n_iadd (q := 743) 452 rfl c1 ?_
  obtain ⟨c2, h⟩ := h
  obtain ⟨c3, h⟩ := h
  refine n_iald (q := 744) 453 rfl c2 c3 ?_
  refine s_aload_n (q := 745) 454 0 rfl rfl ?_
  refine s_iload_n (q := 746) 455 3 rfl rfl ?_
  refine s_iconst (q := 747) 456 rfl ?_
  obtain ⟨c4, h⟩ := h
  refine n_iadd (q := 748) 457 rfl c4 ?_
  obtain ⟨c5, h⟩ := h
  refine n_iald (q := 749) 458 rfl c2 c5 ?_
  obtain ⟨c6, h⟩ := h
  refine PW.pick [0, 1, 2, 3] rfl ?_
  exact n_callV (N := mX11_index) (as := [(0, E x0 (x3 + 1)), (0, E x0 (x3 + 2))]) (st := []) (q := 752) (d' := 2) 459 rfl uX11_index kL_91 rfl c6 h
set_option maxRecDepth 100000 in
theorem vL_law_771 {l : Launch} {G : pG} {bg : Nat × Nat} {n : Nat} {K : Int → Nat × Nat} {F E : Int → Int → Int} {Q : Option pV → pM → Prop} (x0 x1 x2 x3 : Int) (h : (K x1).1 = 11 ∧ PC l G 1 mX11_undo (0, 0) [(2, x1)] (n, K, F, E) (fun r μ => PW l G 84 mL_law bg 775 [(0, (2, x0)), (1, (2, x1)), (2, (2, x2)), (3, (0, x3))] (r.toList ++ []) μ Q)) : PW l G 84 mL_law bg 771 [(0, (2, x0)), (1, (2, x1)), (2, (2, x2)), (3, (0, x3))] [] (n, K, F, E) Q := by
  refine s_aload_n (q := 772) 475 1 rfl rfl ?_
  obtain ⟨c1, h⟩ := h
  refine PW.pick [0, 1, 2, 3] rfl ?_
  exact n_callV (N := mX11_undo) (as := []) (st := []) (q := 775) (d' := 1) 476 rfl uX11_undo kL_95 rfl c1 h
set_option maxRecDepth 100000 in
theorem vL_law_784 {l : Launch} {G : pG} {bg : Nat × Nat} {n : Nat} {K : Int → Nat × Nat} {F E : Int → Int → Int} {Q : Option pV → pM → Prop} (x0 x1 x2 x3 : Int) (h : (-2147483648 ≤ x3 + 1 ∧ x3 + 1 < 2147483648) ∧ (K x0).1 = 20 ∧ ((0 : Int) ≤ x3 + 1 ∧ x3 + 1 < ((K x0).2 : Int)) ∧ (-2147483648 ≤ x3 + 2 ∧ x3 + 2 < 2147483648) ∧ ((0 : Int) ≤ x3 + 2 ∧ x3 + 2 < ((K x0).2 : Int)) ∧ (K x1).1 = 11 ∧ PC l G 1 mX11_result (0, 0) [(2, x1), (0, E x0 (x3 + 1)), (0, E x0 (x3 + 2))] (n, K, F, E) (fun r μ => PW l G 84 mL_law bg 798 [(0, (2, x0)), (1, (2, x1)), (2, (2, x2)), (3, (0, x3))] (r.toList ++ []) μ Q)) : PW l G 84 mL_law bg 784 [(0, (2, x0)), (1, (2, x1)), (2, (2, x2)), (3, (0, x3))] [] (n, K, F, E) Q := by
  refine s_aload_n (q := 785) 482 1 rfl rfl ?_
  refine s_aload_n (q := 786) 483 0 rfl rfl ?_
  refine s_iload_n (q := 787) 484 3 rfl rfl ?_
  refine s_iconst (q := 788) 485 rfl ?_
  obtain ⟨c1, h⟩ := h
  refine n_iadd (q := 789) 486 rfl c1 ?_
  obtain ⟨c2, h⟩ := h
  obtain ⟨c3, h⟩ := h
  refine n_iald (q := 790) 487 rfl c2 c3 ?_
  refine s_aload_n (q := 791) 488 0 rfl rfl ?_
  refine s_iload_n (q := 792) 489 3 rfl rfl ?_
  refine s_iconst (q := 793) 490 rfl ?_
  obtain ⟨c4, h⟩ := h
  refine n_iadd (q := 794) 491 rfl c4 ?_
  obtain ⟨c5, h⟩ := h
  refine n_iald (q := 795) 492 rfl c2 c5 ?_
  obtain ⟨c6, h⟩ := h
  refine PW.pick [0, 1, 2, 3] rfl ?_
  exact n_callV (N := mX11_result) (as := [(0, E x0 (x3 + 1)), (0, E x0 (x3 + 2))]) (st := []) (q := 798) (d' := 1) 493 rfl uX11_result kL_99 rfl c6 h
set_option maxRecDepth 100000 in
theorem vL_law_817 {l : Launch} {G : pG} {bg : Nat × Nat} {n : Nat} {K : Int → Nat × Nat} {F E : Int → Int → Int} {Q : Option pV → pM → Prop} (x0 x1 x2 x3 : Int) (h : (-2147483648 ≤ x3 + 1 ∧ x3 + 1 < 2147483648) ∧ (K x0).1 = 20 ∧ ((0 : Int) ≤ x3 + 1 ∧ x3 + 1 < ((K x0).2 : Int)) ∧ (K x1).1 = 11 ∧ PC l G 0 mX11_shut (0, 0) [(2, x1), (0, E x0 (x3 + 1))] (n, K, F, E) (fun r μ => PW l G 84 mL_law bg 826 [(0, (2, x0)), (1, (2, x1)), (2, (2, x2)), (3, (0, x3))] (r.toList ++ []) μ Q)) : PW l G 84 mL_law bg 817 [(0, (2, x0)), (1, (2, x1)), (2, (2, x2)), (3, (0, x3))] [] (n, K, F, E) Q := by
  refine s_aload_n (q := 818) 509 1 rfl rfl ?_
  refine s_aload_n (q := 819) 510 0 rfl rfl ?_
  refine s_iload_n (q := 820) 511 3 rfl rfl ?_
  refine s_iconst (q := 821) 512 rfl ?_
  obtain ⟨c1, h⟩ := h
  refine n_iadd (q := 822) 513 rfl c1 ?_
  obtain ⟨c2, h⟩ := h
  obtain ⟨c3, h⟩ := h
  refine n_iald (q := 823) 514 rfl c2 c3 ?_
  obtain ⟨c4, h⟩ := h
  refine PW.pick [0, 1, 2, 3] rfl ?_
  exact n_callV (N := mX11_shut) (as := [(0, E x0 (x3 + 1))]) (st := []) (q := 826) (d' := 0) 515 rfl uX11_shut kL_103 rfl c4 h
set_option maxRecDepth 100000 in
theorem vL_law_840 {l : Launch} {G : pG} {bg : Nat × Nat} {n : Nat} {K : Int → Nat × Nat} {F E : Int → Int → Int} {Q : Option pV → pM → Prop} (x0 x1 x2 x3 : Int) (h : (K x1).1 = 11 ∧ PC l G 0 mX11_deepest (0, 0) [(2, x1)] (n, K, F, E) (fun r μ => PW l G 84 mL_law bg 844 [(0, (2, x0)), (1, (2, x1)), (2, (2, x2)), (3, (0, x3))] (r.toList ++ []) μ Q)) : PW l G 84 mL_law bg 840 [(0, (2, x0)), (1, (2, x1)), (2, (2, x2)), (3, (0, x3))] [] (n, K, F, E) Q := by
  refine s_aload_n (q := 841) 526 1 rfl rfl ?_
  obtain ⟨c1, h⟩ := h
  refine PW.pick [0, 1, 2, 3] rfl ?_
  exact n_callV (N := mX11_deepest) (as := []) (st := []) (q := 844) (d' := 0) 527 rfl uX11_deepest kL_107 rfl c1 h
set_option maxRecDepth 100000 in
theorem vL_law_853 {l : Launch} {G : pG} {bg : Nat × Nat} {n : Nat} {K : Int → Nat × Nat} {F E : Int → Int → Int} {Q : Option pV → pM → Prop} (x0 x1 x2 x3 : Int) (h : (-2147483648 ≤ x3 + 1 ∧ x3 + 1 < 2147483648) ∧ (K x0).1 = 20 ∧ ((0 : Int) ≤ x3 + 1 ∧ x3 + 1 < ((K x0).2 : Int)) ∧ (-2147483648 ≤ x3 + 2 ∧ x3 + 2 < 2147483648) ∧ ((0 : Int) ≤ x3 + 2 ∧ x3 + 2 < ((K x0).2 : Int)) ∧ (-2147483648 ≤ x3 + 3 ∧ x3 + 3 < 2147483648) ∧ ((0 : Int) ≤ x3 + 3 ∧ x3 + 3 < ((K x0).2 : Int)) ∧ (-2147483648 ≤ x3 + 4 ∧ x3 + 4 < 2147483648) ∧ ((0 : Int) ≤ x3 + 4 ∧ x3 + 4 < ((K x0).2 : Int)) ∧ (K x1).1 = 11 ∧ PC l G 32 mX11_brings (0, 0) [(2, x1), (0, E x0 (x3 + 1)), (0, E x0 (x3 + 2)), (0, E x0 (x3 + 3)), (0, E x0 (x3 + 4))] (n, K, F, E) (fun r μ => PW l G 84 mL_law bg 877 [(0, (2, x0)), (1, (2, x1)), (2, (2, x2)), (3, (0, x3))] (r.toList ++ []) μ Q)) : PW l G 84 mL_law bg 853 [(0, (2, x0)), (1, (2, x1)), (2, (2, x2)), (3, (0, x3))] [] (n, K, F, E) Q := by
  refine s_aload_n (q := 854) 533 1 rfl rfl ?_
  refine s_aload_n (q := 855) 534 0 rfl rfl ?_
  refine s_iload_n (q := 856) 535 3 rfl rfl ?_
  refine s_iconst (q := 857) 536 rfl ?_
  obtain ⟨c1, h⟩ := h
  refine n_iadd (q := 858) 537 rfl c1 ?_
  obtain ⟨c2, h⟩ := h
  obtain ⟨c3, h⟩ := h
  refine n_iald (q := 859) 538 rfl c2 c3 ?_
  refine s_aload_n (q := 860) 539 0 rfl rfl ?_
  refine s_iload_n (q := 861) 540 3 rfl rfl ?_
  refine s_iconst (q := 862) 541 rfl ?_
  obtain ⟨c4, h⟩ := h
  refine n_iadd (q := 863) 542 rfl c4 ?_
  obtain ⟨c5, h⟩ := h
  refine n_iald (q := 864) 543 rfl c2 c5 ?_
  refine s_aload_n (q := 865) 544 0 rfl rfl ?_
  refine s_iload_n (q := 866) 545 3 rfl rfl ?_
  refine s_iconst (q := 867) 546 rfl ?_
  obtain ⟨c6, h⟩ := h
  refine n_iadd (q := 868) 547 rfl c6 ?_
  obtain ⟨c7, h⟩ := h
  refine n_iald (q := 869) 548 rfl c2 c7 ?_
  refine s_aload_n (q := 870) 549 0 rfl rfl ?_
  refine s_iload_n (q := 871) 550 3 rfl rfl ?_
  refine s_iconst (q := 872) 551 rfl ?_
  obtain ⟨c8, h⟩ := h
  refine n_iadd (q := 873) 552 rfl c8 ?_
  obtain ⟨c9, h⟩ := h
  refine n_iald (q := 874) 553 rfl c2 c9 ?_
  obtain ⟨c10, h⟩ := h
  refine PW.pick [0, 1, 2, 3] rfl ?_
  exact n_callV (N := mX11_brings) (as := [(0, E x0 (x3 + 1)), (0, E x0 (x3 + 2)), (0, E x0 (x3 + 3)), (0, E x0 (x3 + 4))]) (st := []) (q := 877) (d' := 32) 554 rfl uX11_brings kL_111 rfl c10 h
set_option maxRecDepth 100000 in
theorem vL_law_906 {l : Launch} {G : pG} {bg : Nat × Nat} {n : Nat} {K : Int → Nat × Nat} {F E : Int → Int → Int} {Q : Option pV → pM → Prop} (x0 x1 x2 x3 : Int) (h : (-2147483648 ≤ x3 + 1 ∧ x3 + 1 < 2147483648) ∧ (K x0).1 = 20 ∧ ((0 : Int) ≤ x3 + 1 ∧ x3 + 1 < ((K x0).2 : Int)) ∧ (-2147483648 ≤ x3 + 2 ∧ x3 + 2 < 2147483648) ∧ ((0 : Int) ≤ x3 + 2 ∧ x3 + 2 < ((K x0).2 : Int)) ∧ (-2147483648 ≤ x3 + 3 ∧ x3 + 3 < 2147483648) ∧ ((0 : Int) ≤ x3 + 3 ∧ x3 + 3 < ((K x0).2 : Int)) ∧ (-2147483648 ≤ x3 + 4 ∧ x3 + 4 < 2147483648) ∧ ((0 : Int) ≤ x3 + 4 ∧ x3 + 4 < ((K x0).2 : Int)) ∧ (K x1).1 = 11 ∧ PC l G 32 mX11_cheapest (0, 0) [(2, x1), (0, E x0 (x3 + 1)), (0, E x0 (x3 + 2)), (0, E x0 (x3 + 3)), (0, E x0 (x3 + 4))] (n, K, F, E) (fun r μ => PW l G 84 mL_law bg 930 [(0, (2, x0)), (1, (2, x1)), (2, (2, x2)), (3, (0, x3))] (r.toList ++ []) μ Q)) : PW l G 84 mL_law bg 906 [(0, (2, x0)), (1, (2, x1)), (2, (2, x2)), (3, (0, x3))] [] (n, K, F, E) Q := by
  refine s_aload_n (q := 907) 580 1 rfl rfl ?_
  refine s_aload_n (q := 908) 581 0 rfl rfl ?_
  refine s_iload_n (q := 909) 582 3 rfl rfl ?_
  refine s_iconst (q := 910) 583 rfl ?_
  obtain ⟨c1, h⟩ := h
  refine n_iadd (q := 911) 584 rfl c1 ?_
  obtain ⟨c2, h⟩ := h
  obtain ⟨c3, h⟩ := h
  refine n_iald (q := 912) 585 rfl c2 c3 ?_
  refine s_aload_n (q := 913) 586 0 rfl rfl ?_
  refine s_iload_n (q := 914) 587 3 rfl rfl ?_
  refine s_iconst (q := 915) 588 rfl ?_
  obtain ⟨c4, h⟩ := h
  refine n_iadd (q := 916) 589 rfl c4 ?_
  obtain ⟨c5, h⟩ := h
  refine n_iald (q := 917) 590 rfl c2 c5 ?_
  refine s_aload_n (q := 918) 591 0 rfl rfl ?_
  refine s_iload_n (q := 919) 592 3 rfl rfl ?_
  refine s_iconst (q := 920) 593 rfl ?_
  obtain ⟨c6, h⟩ := h
  refine n_iadd (q := 921) 594 rfl c6 ?_
  obtain ⟨c7, h⟩ := h
  refine n_iald (q := 922) 595 rfl c2 c7 ?_
  refine s_aload_n (q := 923) 596 0 rfl rfl ?_
  refine s_iload_n (q := 924) 597 3 rfl rfl ?_
  refine s_iconst (q := 925) 598 rfl ?_
  obtain ⟨c8, h⟩ := h
  refine n_iadd (q := 926) 599 rfl c8 ?_
  obtain ⟨c9, h⟩ := h
  refine n_iald (q := 927) 600 rfl c2 c9 ?_
  obtain ⟨c10, h⟩ := h
  refine PW.pick [0, 1, 2, 3] rfl ?_
  exact n_callV (N := mX11_cheapest) (as := [(0, E x0 (x3 + 1)), (0, E x0 (x3 + 2)), (0, E x0 (x3 + 3)), (0, E x0 (x3 + 4))]) (st := []) (q := 930) (d' := 32) 601 rfl uX11_cheapest kL_115 rfl c10 h
set_option maxRecDepth 100000 in
theorem vL_law_959 {l : Launch} {G : pG} {bg : Nat × Nat} {n : Nat} {K : Int → Nat × Nat} {F E : Int → Int → Int} {Q : Option pV → pM → Prop} (x0 x1 x2 x3 : Int) (h : (-2147483648 ≤ x3 + 1 ∧ x3 + 1 < 2147483648) ∧ (K x0).1 = 20 ∧ ((0 : Int) ≤ x3 + 1 ∧ x3 + 1 < ((K x0).2 : Int)) ∧ (-2147483648 ≤ x3 + 2 ∧ x3 + 2 < 2147483648) ∧ ((0 : Int) ≤ x3 + 2 ∧ x3 + 2 < ((K x0).2 : Int)) ∧ (-2147483648 ≤ x3 + 3 ∧ x3 + 3 < 2147483648) ∧ ((0 : Int) ≤ x3 + 3 ∧ x3 + 3 < ((K x0).2 : Int)) ∧ (K x1).1 = 11 ∧ PC l G 32 mX11_regret (0, 0) [(2, x1), (0, E x0 (x3 + 1)), (0, E x0 (x3 + 2)), (0, E x0 (x3 + 3))] (n, K, F, E) (fun r μ => PW l G 84 mL_law bg 978 [(0, (2, x0)), (1, (2, x1)), (2, (2, x2)), (3, (0, x3))] (r.toList ++ []) μ Q)) : PW l G 84 mL_law bg 959 [(0, (2, x0)), (1, (2, x1)), (2, (2, x2)), (3, (0, x3))] [] (n, K, F, E) Q := by
  refine s_aload_n (q := 960) 627 1 rfl rfl ?_
  refine s_aload_n (q := 961) 628 0 rfl rfl ?_
  refine s_iload_n (q := 962) 629 3 rfl rfl ?_
  refine s_iconst (q := 963) 630 rfl ?_
  obtain ⟨c1, h⟩ := h
  refine n_iadd (q := 964) 631 rfl c1 ?_
  obtain ⟨c2, h⟩ := h
  obtain ⟨c3, h⟩ := h
  refine n_iald (q := 965) 632 rfl c2 c3 ?_
  refine s_aload_n (q := 966) 633 0 rfl rfl ?_
  refine s_iload_n (q := 967) 634 3 rfl rfl ?_
  refine s_iconst (q := 968) 635 rfl ?_
  obtain ⟨c4, h⟩ := h
  refine n_iadd (q := 969) 636 rfl c4 ?_
  obtain ⟨c5, h⟩ := h
  refine n_iald (q := 970) 637 rfl c2 c5 ?_
  refine s_aload_n (q := 971) 638 0 rfl rfl ?_
  refine s_iload_n (q := 972) 639 3 rfl rfl ?_
  refine s_iconst (q := 973) 640 rfl ?_
  obtain ⟨c6, h⟩ := h
  refine n_iadd (q := 974) 641 rfl c6 ?_
  obtain ⟨c7, h⟩ := h
  refine n_iald (q := 975) 642 rfl c2 c7 ?_
  obtain ⟨c8, h⟩ := h
  refine PW.pick [0, 1, 2, 3] rfl ?_
  exact n_callV (N := mX11_regret) (as := [(0, E x0 (x3 + 1)), (0, E x0 (x3 + 2)), (0, E x0 (x3 + 3))]) (st := []) (q := 978) (d' := 32) 643 rfl uX11_regret kL_119 rfl c8 h
set_option maxRecDepth 100000 in
theorem vL_law_1002 {l : Launch} {G : pG} {bg : Nat × Nat} {n : Nat} {K : Int → Nat × Nat} {F E : Int → Int → Int} {Q : Option pV → pM → Prop} (x0 x1 x2 x3 : Int) (h : (-2147483648 ≤ x3 + 1 ∧ x3 + 1 < 2147483648) ∧ (K x0).1 = 20 ∧ ((0 : Int) ≤ x3 + 1 ∧ x3 + 1 < ((K x0).2 : Int)) ∧ (-2147483648 ≤ x3 + 2 ∧ x3 + 2 < 2147483648) ∧ ((0 : Int) ≤ x3 + 2 ∧ x3 + 2 < ((K x0).2 : Int)) ∧ (-2147483648 ≤ x3 + 3 ∧ x3 + 3 < 2147483648) ∧ ((0 : Int) ≤ x3 + 3 ∧ x3 + 3 < ((K x0).2 : Int)) ∧ (-2147483648 ≤ x3 + 4 ∧ x3 + 4 < 2147483648) ∧ ((0 : Int) ≤ x3 + 4 ∧ x3 + 4 < ((K x0).2 : Int)) ∧ (K x1).1 = 11 ∧ PC l G 32 mX11_bestIndex (0, 0) [(2, x1), (0, E x0 (x3 + 1)), (0, E x0 (x3 + 2)), (0, E x0 (x3 + 3)), (0, E x0 (x3 + 4))] (n, K, F, E) (fun r μ => PW l G 84 mL_law bg 1026 [(0, (2, x0)), (1, (2, x1)), (2, (2, x2)), (3, (0, x3))] (r.toList ++ []) μ Q)) : PW l G 84 mL_law bg 1002 [(0, (2, x0)), (1, (2, x1)), (2, (2, x2)), (3, (0, x3))] [] (n, K, F, E) Q := by
  refine s_aload_n (q := 1003) 664 1 rfl rfl ?_
  refine s_aload_n (q := 1004) 665 0 rfl rfl ?_
  refine s_iload_n (q := 1005) 666 3 rfl rfl ?_
  refine s_iconst (q := 1006) 667 rfl ?_
  obtain ⟨c1, h⟩ := h
  refine n_iadd (q := 1007) 668 rfl c1 ?_
  obtain ⟨c2, h⟩ := h
  obtain ⟨c3, h⟩ := h
  refine n_iald (q := 1008) 669 rfl c2 c3 ?_
  refine s_aload_n (q := 1009) 670 0 rfl rfl ?_
  refine s_iload_n (q := 1010) 671 3 rfl rfl ?_
  refine s_iconst (q := 1011) 672 rfl ?_
  obtain ⟨c4, h⟩ := h
  refine n_iadd (q := 1012) 673 rfl c4 ?_
  obtain ⟨c5, h⟩ := h
  refine n_iald (q := 1013) 674 rfl c2 c5 ?_
  refine s_aload_n (q := 1014) 675 0 rfl rfl ?_
  refine s_iload_n (q := 1015) 676 3 rfl rfl ?_
  refine s_iconst (q := 1016) 677 rfl ?_
  obtain ⟨c6, h⟩ := h
  refine n_iadd (q := 1017) 678 rfl c6 ?_
  obtain ⟨c7, h⟩ := h
  refine n_iald (q := 1018) 679 rfl c2 c7 ?_
  refine s_aload_n (q := 1019) 680 0 rfl rfl ?_
  refine s_iload_n (q := 1020) 681 3 rfl rfl ?_
  refine s_iconst (q := 1021) 682 rfl ?_
  obtain ⟨c8, h⟩ := h
  refine n_iadd (q := 1022) 683 rfl c8 ?_
  obtain ⟨c9, h⟩ := h
  refine n_iald (q := 1023) 684 rfl c2 c9 ?_
  obtain ⟨c10, h⟩ := h
  refine PW.pick [0, 1, 2, 3] rfl ?_
  exact n_callV (N := mX11_bestIndex) (as := [(0, E x0 (x3 + 1)), (0, E x0 (x3 + 2)), (0, E x0 (x3 + 3)), (0, E x0 (x3 + 4))]) (st := []) (q := 1026) (d' := 32) 685 rfl uX11_bestIndex kL_123 rfl c10 h
set_option maxRecDepth 100000 in
theorem vL_law_1055 {l : Launch} {G : pG} {bg : Nat × Nat} {n : Nat} {K : Int → Nat × Nat} {F E : Int → Int → Int} {Q : Option pV → pM → Prop} (x0 x1 x2 x3 : Int) (h : (-2147483648 ≤ x3 + 1 ∧ x3 + 1 < 2147483648) ∧ (K x0).1 = 20 ∧ ((0 : Int) ≤ x3 + 1 ∧ x3 + 1 < ((K x0).2 : Int)) ∧ (-2147483648 ≤ x3 + 2 ∧ x3 + 2 < 2147483648) ∧ ((0 : Int) ≤ x3 + 2 ∧ x3 + 2 < ((K x0).2 : Int)) ∧ (K x1).1 = 11 ∧ PC l G 1 mX11_seen (0, 0) [(2, x1), (0, E x0 (x3 + 1)), (0, E x0 (x3 + 2))] (n, K, F, E) (fun r μ => PW l G 84 mL_law bg 1069 [(0, (2, x0)), (1, (2, x1)), (2, (2, x2)), (3, (0, x3))] (r.toList ++ []) μ Q)) : PW l G 84 mL_law bg 1055 [(0, (2, x0)), (1, (2, x1)), (2, (2, x2)), (3, (0, x3))] [] (n, K, F, E) Q := by
  refine s_aload_n (q := 1056) 711 1 rfl rfl ?_
  refine s_aload_n (q := 1057) 712 0 rfl rfl ?_
  refine s_iload_n (q := 1058) 713 3 rfl rfl ?_
  refine s_iconst (q := 1059) 714 rfl ?_
  obtain ⟨c1, h⟩ := h
  refine n_iadd (q := 1060) 715 rfl c1 ?_
  obtain ⟨c2, h⟩ := h
  obtain ⟨c3, h⟩ := h
  refine n_iald (q := 1061) 716 rfl c2 c3 ?_
  refine s_aload_n (q := 1062) 717 0 rfl rfl ?_
  refine s_iload_n (q := 1063) 718 3 rfl rfl ?_
  refine s_iconst (q := 1064) 719 rfl ?_
  obtain ⟨c4, h⟩ := h
  refine n_iadd (q := 1065) 720 rfl c4 ?_
  obtain ⟨c5, h⟩ := h
  refine n_iald (q := 1066) 721 rfl c2 c5 ?_
  obtain ⟨c6, h⟩ := h
  refine PW.pick [0, 1, 2, 3] rfl ?_
  exact n_callV (N := mX11_seen) (as := [(0, E x0 (x3 + 1)), (0, E x0 (x3 + 2))]) (st := []) (q := 1069) (d' := 1) 722 rfl uX11_seen kL_127 rfl c6 h
set_option maxRecDepth 100000 in
theorem vL_law_1088 {l : Launch} {G : pG} {bg : Nat × Nat} {n : Nat} {K : Int → Nat × Nat} {F E : Int → Int → Int} {Q : Option pV → pM → Prop} (x0 x1 x2 x3 : Int) (h : (K x1).1 = 11 ∧ PC l G 0 mX11_forget (0, 0) [(2, x1)] (n, K, F, E) (fun r μ => PW l G 84 mL_law bg 1092 [(0, (2, x0)), (1, (2, x1)), (2, (2, x2)), (3, (0, x3))] (r.toList ++ []) μ Q)) : PW l G 84 mL_law bg 1088 [(0, (2, x0)), (1, (2, x1)), (2, (2, x2)), (3, (0, x3))] [] (n, K, F, E) Q := by
  refine s_aload_n (q := 1089) 738 1 rfl rfl ?_
  obtain ⟨c1, h⟩ := h
  refine PW.pick [0, 1, 2, 3] rfl ?_
  exact n_callV (N := mX11_forget) (as := []) (st := []) (q := 1092) (d' := 0) 739 rfl uX11_forget kL_131 rfl c1 h
set_option maxRecDepth 100000 in
theorem vL_law_1101 {l : Launch} {G : pG} {bg : Nat × Nat} {n : Nat} {K : Int → Nat × Nat} {F E : Int → Int → Int} {Q : Option pV → pM → Prop} (x0 x1 x2 x3 : Int) (h : (-2147483648 ≤ x3 + 1 ∧ x3 + 1 < 2147483648) ∧ (K x0).1 = 20 ∧ ((0 : Int) ≤ x3 + 1 ∧ x3 + 1 < ((K x0).2 : Int)) ∧ (K x1).1 = 11 ∧ PC l G 3 mX11_canBe (0, 0) [(2, x1), (0, E x0 (x3 + 1))] (n, K, F, E) (fun r μ => PW l G 84 mL_law bg 1110 [(0, (2, x0)), (1, (2, x1)), (2, (2, x2)), (3, (0, x3))] (r.toList ++ []) μ Q)) : PW l G 84 mL_law bg 1101 [(0, (2, x0)), (1, (2, x1)), (2, (2, x2)), (3, (0, x3))] [] (n, K, F, E) Q := by
  refine s_aload_n (q := 1102) 745 1 rfl rfl ?_
  refine s_aload_n (q := 1103) 746 0 rfl rfl ?_
  refine s_iload_n (q := 1104) 747 3 rfl rfl ?_
  refine s_iconst (q := 1105) 748 rfl ?_
  obtain ⟨c1, h⟩ := h
  refine n_iadd (q := 1106) 749 rfl c1 ?_
  obtain ⟨c2, h⟩ := h
  obtain ⟨c3, h⟩ := h
  refine n_iald (q := 1107) 750 rfl c2 c3 ?_
  obtain ⟨c4, h⟩ := h
  refine PW.pick [0, 1, 2, 3] rfl ?_
  exact n_callV (N := mX11_canBe) (as := [(0, E x0 (x3 + 1))]) (st := []) (q := 1110) (d' := 3) 751 rfl uX11_canBe kL_135 rfl c4 h
set_option maxRecDepth 100000 in
theorem vL_law_1124 {l : Launch} {G : pG} {bg : Nat × Nat} {n : Nat} {K : Int → Nat × Nat} {F E : Int → Int → Int} {Q : Option pV → pM → Prop} (x0 x1 x2 x3 : Int) (h : (-2147483648 ≤ x3 + 1 ∧ x3 + 1 < 2147483648) ∧ (K x0).1 = 20 ∧ ((0 : Int) ≤ x3 + 1 ∧ x3 + 1 < ((K x0).2 : Int)) ∧ (K x1).1 = 11 ∧ PC l G 4 mX11_ask (0, 0) [(2, x1), (0, E x0 (x3 + 1))] (n, K, F, E) (fun r μ => PW l G 84 mL_law bg 1133 [(0, (2, x0)), (1, (2, x1)), (2, (2, x2)), (3, (0, x3))] (r.toList ++ []) μ Q)) : PW l G 84 mL_law bg 1124 [(0, (2, x0)), (1, (2, x1)), (2, (2, x2)), (3, (0, x3))] [] (n, K, F, E) Q := by
  refine s_aload_n (q := 1125) 762 1 rfl rfl ?_
  refine s_aload_n (q := 1126) 763 0 rfl rfl ?_
  refine s_iload_n (q := 1127) 764 3 rfl rfl ?_
  refine s_iconst (q := 1128) 765 rfl ?_
  obtain ⟨c1, h⟩ := h
  refine n_iadd (q := 1129) 766 rfl c1 ?_
  obtain ⟨c2, h⟩ := h
  obtain ⟨c3, h⟩ := h
  refine n_iald (q := 1130) 767 rfl c2 c3 ?_
  obtain ⟨c4, h⟩ := h
  refine PW.pick [0, 1, 2, 3] rfl ?_
  exact n_callV (N := mX11_ask) (as := [(0, E x0 (x3 + 1))]) (st := []) (q := 1133) (d' := 4) 768 rfl uX11_ask kL_139 rfl c4 h
set_option maxRecDepth 100000 in
theorem vL_law_1147 {l : Launch} {G : pG} {bg : Nat × Nat} {n : Nat} {K : Int → Nat × Nat} {F E : Int → Int → Int} {Q : Option pV → pM → Prop} (x0 x1 x2 x3 : Int) (h : (-2147483648 ≤ x3 + 1 ∧ x3 + 1 < 2147483648) ∧ (K x0).1 = 20 ∧ ((0 : Int) ≤ x3 + 1 ∧ x3 + 1 < ((K x0).2 : Int)) ∧ (-2147483648 ≤ x3 + 2 ∧ x3 + 2 < 2147483648) ∧ ((0 : Int) ≤ x3 + 2 ∧ x3 + 2 < ((K x0).2 : Int)) ∧ (K x1).1 = 11 ∧ (1 ≤ bg.1 ∧ 20 ≤ bg.2) ∧ PC l G 0 mX11_few (1, 20) [(2, x1), (0, E x0 (x3 + 1)), (0, E x0 (x3 + 2))] (n, K, F, E) (fun r μ => PW l G 84 mL_law (bg.1 - (1, 20).1, bg.2 - (1, 20).2) 1161 [(0, (2, x0)), (1, (2, x1)), (2, (2, x2)), (3, (0, x3))] (r.toList ++ []) μ Q)) : PW l G 84 mL_law bg 1147 [(0, (2, x0)), (1, (2, x1)), (2, (2, x2)), (3, (0, x3))] [] (n, K, F, E) Q := by
  refine s_aload_n (q := 1148) 779 1 rfl rfl ?_
  refine s_aload_n (q := 1149) 780 0 rfl rfl ?_
  refine s_iload_n (q := 1150) 781 3 rfl rfl ?_
  refine s_iconst (q := 1151) 782 rfl ?_
  obtain ⟨c1, h⟩ := h
  refine n_iadd (q := 1152) 783 rfl c1 ?_
  obtain ⟨c2, h⟩ := h
  obtain ⟨c3, h⟩ := h
  refine n_iald (q := 1153) 784 rfl c2 c3 ?_
  refine s_aload_n (q := 1154) 785 0 rfl rfl ?_
  refine s_iload_n (q := 1155) 786 3 rfl rfl ?_
  refine s_iconst (q := 1156) 787 rfl ?_
  obtain ⟨c4, h⟩ := h
  refine n_iadd (q := 1157) 788 rfl c4 ?_
  obtain ⟨c5, h⟩ := h
  refine n_iald (q := 1158) 789 rfl c2 c5 ?_
  obtain ⟨c6, h⟩ := h
  obtain ⟨c7, h⟩ := h
  refine PW.pick [0, 1, 2, 3] rfl ?_
  exact s_callV (b' := (1, 20)) (N := mX11_few) (as := [(0, E x0 (x3 + 1)), (0, E x0 (x3 + 2))]) (st := []) (q := 1161) (d' := 0) 790 rfl uX11_few kL_143 rfl (pK2 c6) h (hb := c7)
set_option maxRecDepth 100000 in
theorem vL_law_1181 {l : Launch} {G : pG} {bg : Nat × Nat} {n : Nat} {K : Int → Nat × Nat} {F E : Int → Int → Int} {Q : Option pV → pM → Prop} (x0 x1 x2 x3 : Int) (h : (-2147483648 ≤ x3 + 1 ∧ x3 + 1 < 2147483648) ∧ (K x0).1 = 20 ∧ ((0 : Int) ≤ x3 + 1 ∧ x3 + 1 < ((K x0).2 : Int)) ∧ (-2147483648 ≤ x3 + 2 ∧ x3 + 2 < 2147483648) ∧ ((0 : Int) ≤ x3 + 2 ∧ x3 + 2 < ((K x0).2 : Int)) ∧ (-2147483648 ≤ x3 + 3 ∧ x3 + 3 < 2147483648) ∧ ((0 : Int) ≤ x3 + 3 ∧ x3 + 3 < ((K x0).2 : Int)) ∧ (-2147483648 ≤ x3 + 4 ∧ x3 + 4 < 2147483648) ∧ ((0 : Int) ≤ x3 + 4 ∧ x3 + 4 < ((K x0).2 : Int)) ∧ (K x1).1 = 11 ∧ PC l G 32 mX11_compare (0, 0) [(2, x1), (0, E x0 (x3 + 1)), (0, E x0 (x3 + 2)), (0, E x0 (x3 + 3)), (0, E x0 (x3 + 4))] (n, K, F, E) (fun r μ => PW l G 84 mL_law bg 1205 [(0, (2, x0)), (1, (2, x1)), (2, (2, x2)), (3, (0, x3))] (r.toList ++ []) μ Q)) : PW l G 84 mL_law bg 1181 [(0, (2, x0)), (1, (2, x1)), (2, (2, x2)), (3, (0, x3))] [] (n, K, F, E) Q := by
  refine s_aload_n (q := 1182) 807 1 rfl rfl ?_
  refine s_aload_n (q := 1183) 808 0 rfl rfl ?_
  refine s_iload_n (q := 1184) 809 3 rfl rfl ?_
  refine s_iconst (q := 1185) 810 rfl ?_
  obtain ⟨c1, h⟩ := h
  refine n_iadd (q := 1186) 811 rfl c1 ?_
  obtain ⟨c2, h⟩ := h
  obtain ⟨c3, h⟩ := h
  refine n_iald (q := 1187) 812 rfl c2 c3 ?_
  refine s_aload_n (q := 1188) 813 0 rfl rfl ?_
  refine s_iload_n (q := 1189) 814 3 rfl rfl ?_
  refine s_iconst (q := 1190) 815 rfl ?_
  obtain ⟨c4, h⟩ := h
  refine n_iadd (q := 1191) 816 rfl c4 ?_
  obtain ⟨c5, h⟩ := h
  refine n_iald (q := 1192) 817 rfl c2 c5 ?_
  refine s_aload_n (q := 1193) 818 0 rfl rfl ?_
  refine s_iload_n (q := 1194) 819 3 rfl rfl ?_
  refine s_iconst (q := 1195) 820 rfl ?_
  obtain ⟨c6, h⟩ := h
  refine n_iadd (q := 1196) 821 rfl c6 ?_
  obtain ⟨c7, h⟩ := h
  refine n_iald (q := 1197) 822 rfl c2 c7 ?_
  refine s_aload_n (q := 1198) 823 0 rfl rfl ?_
  refine s_iload_n (q := 1199) 824 3 rfl rfl ?_
  refine s_iconst (q := 1200) 825 rfl ?_
  obtain ⟨c8, h⟩ := h
  refine n_iadd (q := 1201) 826 rfl c8 ?_
  obtain ⟨c9, h⟩ := h
  refine n_iald (q := 1202) 827 rfl c2 c9 ?_
  obtain ⟨c10, h⟩ := h
  refine PW.pick [0, 1, 2, 3] rfl ?_
  exact n_callV (N := mX11_compare) (as := [(0, E x0 (x3 + 1)), (0, E x0 (x3 + 2)), (0, E x0 (x3 + 3)), (0, E x0 (x3 + 4))]) (st := []) (q := 1205) (d' := 32) 828 rfl uX11_compare kL_148 rfl c10 h
set_option maxRecDepth 100000 in
theorem vL_law_1234 {l : Launch} {G : pG} {bg : Nat × Nat} {n : Nat} {K : Int → Nat × Nat} {F E : Int → Int → Int} {Q : Option pV → pM → Prop} (x0 x1 x2 x3 : Int) (h : (-2147483648 ≤ x3 + 1 ∧ x3 + 1 < 2147483648) ∧ (K x0).1 = 20 ∧ ((0 : Int) ≤ x3 + 1 ∧ x3 + 1 < ((K x0).2 : Int)) ∧ (-2147483648 ≤ x3 + 2 ∧ x3 + 2 < 2147483648) ∧ ((0 : Int) ≤ x3 + 2 ∧ x3 + 2 < ((K x0).2 : Int)) ∧ (K x1).1 = 11 ∧ PC l G 32 mX11_days (0, 0) [(2, x1), (0, E x0 (x3 + 1)), (0, E x0 (x3 + 2))] (n, K, F, E) (fun r μ => PW l G 84 mL_law bg 1248 [(0, (2, x0)), (1, (2, x1)), (2, (2, x2)), (3, (0, x3))] (r.toList ++ []) μ Q)) : PW l G 84 mL_law bg 1234 [(0, (2, x0)), (1, (2, x1)), (2, (2, x2)), (3, (0, x3))] [] (n, K, F, E) Q := by
  refine s_aload_n (q := 1235) 854 1 rfl rfl ?_
  refine s_aload_n (q := 1236) 855 0 rfl rfl ?_
  refine s_iload_n (q := 1237) 856 3 rfl rfl ?_
  refine s_iconst (q := 1238) 857 rfl ?_
  obtain ⟨c1, h⟩ := h
  refine n_iadd (q := 1239) 858 rfl c1 ?_
  obtain ⟨c2, h⟩ := h
  obtain ⟨c3, h⟩ := h
  refine n_iald (q := 1240) 859 rfl c2 c3 ?_
  refine s_aload_n (q := 1241) 860 0 rfl rfl ?_
  refine s_iload_n (q := 1242) 861 3 rfl rfl ?_
  refine s_iconst (q := 1243) 862 rfl ?_
  obtain ⟨c4, h⟩ := h
  refine n_iadd (q := 1244) 863 rfl c4 ?_
  obtain ⟨c5, h⟩ := h
  refine n_iald (q := 1245) 864 rfl c2 c5 ?_
  obtain ⟨c6, h⟩ := h
  refine PW.pick [0, 1, 2, 3] rfl ?_
  exact n_callV (N := mX11_days) (as := [(0, E x0 (x3 + 1)), (0, E x0 (x3 + 2))]) (st := []) (q := 1248) (d' := 32) 865 rfl uX11_days kL_152 rfl c6 h
set_option maxRecDepth 100000 in
theorem vL_law_1267 {l : Launch} {G : pG} {bg : Nat × Nat} {n : Nat} {K : Int → Nat × Nat} {F E : Int → Int → Int} {Q : Option pV → pM → Prop} (x0 x1 x2 x3 : Int) (h : (-2147483648 ≤ x3 + 1 ∧ x3 + 1 < 2147483648) ∧ (K x0).1 = 20 ∧ ((0 : Int) ≤ x3 + 1 ∧ x3 + 1 < ((K x0).2 : Int)) ∧ (-2147483648 ≤ x3 + 2 ∧ x3 + 2 < 2147483648) ∧ ((0 : Int) ≤ x3 + 2 ∧ x3 + 2 < ((K x0).2 : Int)) ∧ (K x1).1 = 11 ∧ PC l G 1 mX11_drawn (0, 0) [(2, x1), (0, E x0 (x3 + 1)), (0, E x0 (x3 + 2))] (n, K, F, E) (fun r μ => PW l G 84 mL_law bg 1281 [(0, (2, x0)), (1, (2, x1)), (2, (2, x2)), (3, (0, x3))] (r.toList ++ []) μ Q)) : PW l G 84 mL_law bg 1267 [(0, (2, x0)), (1, (2, x1)), (2, (2, x2)), (3, (0, x3))] [] (n, K, F, E) Q := by
  refine s_aload_n (q := 1268) 881 1 rfl rfl ?_
  refine s_aload_n (q := 1269) 882 0 rfl rfl ?_
  refine s_iload_n (q := 1270) 883 3 rfl rfl ?_
  refine s_iconst (q := 1271) 884 rfl ?_
  obtain ⟨c1, h⟩ := h
  refine n_iadd (q := 1272) 885 rfl c1 ?_
  obtain ⟨c2, h⟩ := h
  obtain ⟨c3, h⟩ := h
  refine n_iald (q := 1273) 886 rfl c2 c3 ?_
  refine s_aload_n (q := 1274) 887 0 rfl rfl ?_
  refine s_iload_n (q := 1275) 888 3 rfl rfl ?_
  refine s_iconst (q := 1276) 889 rfl ?_
  obtain ⟨c4, h⟩ := h
  refine n_iadd (q := 1277) 890 rfl c4 ?_
  obtain ⟨c5, h⟩ := h
  refine n_iald (q := 1278) 891 rfl c2 c5 ?_
  obtain ⟨c6, h⟩ := h
  refine PW.pick [0, 1, 2, 3] rfl ?_
  exact n_callV (N := mX11_drawn) (as := [(0, E x0 (x3 + 1)), (0, E x0 (x3 + 2))]) (st := []) (q := 1281) (d' := 1) 892 rfl uX11_drawn kL_156 rfl c6 h
set_option maxRecDepth 100000 in
theorem vL_law_1300 {l : Launch} {G : pG} {bg : Nat × Nat} {n : Nat} {K : Int → Nat × Nat} {F E : Int → Int → Int} {Q : Option pV → pM → Prop} (x0 x1 x2 x3 : Int) (h : (-2147483648 ≤ x3 + 1 ∧ x3 + 1 < 2147483648) ∧ (K x0).1 = 20 ∧ ((0 : Int) ≤ x3 + 1 ∧ x3 + 1 < ((K x0).2 : Int)) ∧ (K x1).1 = 11 ∧ PC l G 2 mX11_image (0, 0) [(2, x1), (0, E x0 (x3 + 1))] (n, K, F, E) (fun r μ => PW l G 84 mL_law bg 1309 [(0, (2, x0)), (1, (2, x1)), (2, (2, x2)), (3, (0, x3))] (r.toList ++ []) μ Q)) : PW l G 84 mL_law bg 1300 [(0, (2, x0)), (1, (2, x1)), (2, (2, x2)), (3, (0, x3))] [] (n, K, F, E) Q := by
  refine s_aload_n (q := 1301) 908 1 rfl rfl ?_
  refine s_aload_n (q := 1302) 909 0 rfl rfl ?_
  refine s_iload_n (q := 1303) 910 3 rfl rfl ?_
  refine s_iconst (q := 1304) 911 rfl ?_
  obtain ⟨c1, h⟩ := h
  refine n_iadd (q := 1305) 912 rfl c1 ?_
  obtain ⟨c2, h⟩ := h
  obtain ⟨c3, h⟩ := h
  refine n_iald (q := 1306) 913 rfl c2 c3 ?_
  obtain ⟨c4, h⟩ := h
  refine PW.pick [0, 1, 2, 3] rfl ?_
  exact n_callV (N := mX11_image) (as := [(0, E x0 (x3 + 1))]) (st := []) (q := 1309) (d' := 2) 914 rfl uX11_image kL_160 rfl c4 h
set_option maxRecDepth 100000 in
theorem vL_law_1323 {l : Launch} {G : pG} {bg : Nat × Nat} {n : Nat} {K : Int → Nat × Nat} {F E : Int → Int → Int} {Q : Option pV → pM → Prop} (x0 x1 x2 x3 : Int) (h : (-2147483648 ≤ x3 + 1 ∧ x3 + 1 < 2147483648) ∧ (K x0).1 = 20 ∧ ((0 : Int) ≤ x3 + 1 ∧ x3 + 1 < ((K x0).2 : Int)) ∧ (K x1).1 = 11 ∧ PC l G 2 mX11_back (0, 0) [(2, x1), (0, E x0 (x3 + 1))] (n, K, F, E) (fun r μ => PW l G 84 mL_law bg 1332 [(0, (2, x0)), (1, (2, x1)), (2, (2, x2)), (3, (0, x3))] (r.toList ++ []) μ Q)) : PW l G 84 mL_law bg 1323 [(0, (2, x0)), (1, (2, x1)), (2, (2, x2)), (3, (0, x3))] [] (n, K, F, E) Q := by
  refine s_aload_n (q := 1324) 925 1 rfl rfl ?_
  refine s_aload_n (q := 1325) 926 0 rfl rfl ?_
  refine s_iload_n (q := 1326) 927 3 rfl rfl ?_
  refine s_iconst (q := 1327) 928 rfl ?_
  obtain ⟨c1, h⟩ := h
  refine n_iadd (q := 1328) 929 rfl c1 ?_
  obtain ⟨c2, h⟩ := h
  obtain ⟨c3, h⟩ := h
  refine n_iald (q := 1329) 930 rfl c2 c3 ?_
  obtain ⟨c4, h⟩ := h
  refine PW.pick [0, 1, 2, 3] rfl ?_
  exact n_callV (N := mX11_back) (as := [(0, E x0 (x3 + 1))]) (st := []) (q := 1332) (d' := 2) 931 rfl uX11_back kL_164 rfl c4 h
set_option maxRecDepth 100000 in
theorem vL_law_1346 {l : Launch} {G : pG} {bg : Nat × Nat} {n : Nat} {K : Int → Nat × Nat} {F E : Int → Int → Int} {Q : Option pV → pM → Prop} (x0 x1 x2 x3 : Int) (h : (-2147483648 ≤ x3 + 1 ∧ x3 + 1 < 2147483648) ∧ (K x0).1 = 20 ∧ ((0 : Int) ≤ x3 + 1 ∧ x3 + 1 < ((K x0).2 : Int)) ∧ (K x1).1 = 11 ∧ PC l G 1 mX11_count (0, 0) [(2, x1), (0, E x0 (x3 + 1))] (n, K, F, E) (fun r μ => PW l G 84 mL_law bg 1355 [(0, (2, x0)), (1, (2, x1)), (2, (2, x2)), (3, (0, x3))] (r.toList ++ []) μ Q)) : PW l G 84 mL_law bg 1346 [(0, (2, x0)), (1, (2, x1)), (2, (2, x2)), (3, (0, x3))] [] (n, K, F, E) Q := by
  refine s_aload_n (q := 1347) 942 1 rfl rfl ?_
  refine s_aload_n (q := 1348) 943 0 rfl rfl ?_
  refine s_iload_n (q := 1349) 944 3 rfl rfl ?_
  refine s_iconst (q := 1350) 945 rfl ?_
  obtain ⟨c1, h⟩ := h
  refine n_iadd (q := 1351) 946 rfl c1 ?_
  obtain ⟨c2, h⟩ := h
  obtain ⟨c3, h⟩ := h
  refine n_iald (q := 1352) 947 rfl c2 c3 ?_
  obtain ⟨c4, h⟩ := h
  refine PW.pick [0, 1, 2, 3] rfl ?_
  exact n_callV (N := mX11_count) (as := [(0, E x0 (x3 + 1))]) (st := []) (q := 1355) (d' := 1) 948 rfl uX11_count kL_168 rfl c4 h
set_option maxRecDepth 100000 in
theorem vL_law_1369 {l : Launch} {G : pG} {bg : Nat × Nat} {n : Nat} {K : Int → Nat × Nat} {F E : Int → Int → Int} {Q : Option pV → pM → Prop} (x0 x1 x2 x3 : Int) (h : (K x1).1 = 11 ∧ PC l G 0 mX11_status (0, 0) [(2, x1)] (n, K, F, E) (fun r μ => PW l G 84 mL_law bg 1373 [(0, (2, x0)), (1, (2, x1)), (2, (2, x2)), (3, (0, x3))] (r.toList ++ []) μ Q)) : PW l G 84 mL_law bg 1369 [(0, (2, x0)), (1, (2, x1)), (2, (2, x2)), (3, (0, x3))] [] (n, K, F, E) Q := by
  refine s_aload_n (q := 1370) 959 1 rfl rfl ?_
  obtain ⟨c1, h⟩ := h
  refine PW.pick [0, 1, 2, 3] rfl ?_
  exact n_callV (N := mX11_status) (as := []) (st := []) (q := 1373) (d' := 0) 960 rfl uX11_status kL_172 rfl c1 h
