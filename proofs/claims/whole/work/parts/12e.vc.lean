theorem vX6_valueThere_0 {l : Launch} {G : pG} {bg : Nat × Nat} {n : Nat} {K : Int → Nat × Nat} {F E : Int → Int → Int} {Q : Option pV → pM → Prop} (x0 x1 x2 : Int) (h : (K x0).1 = 6 ∧ (K (F x0 2)).1 = 0 ∧ (-2147483648 ≤ x1 * 6 ∧ x1 * 6 < 2147483648) ∧ (-2147483648 ≤ 12 + (x1 * 6) ∧ 12 + (x1 * 6) < 2147483648) ∧ (-2147483648 ≤ (12 + (x1 * 6)) + 1 ∧ (12 + (x1 * 6)) + 1 < 2147483648) ∧ (K (F (F x0 2) 0)).1 = 20 ∧ ((0 : Int) ≤ (12 + (x1 * 6)) + 1 ∧ (12 + (x1 * 6)) + 1 < ((K (F (F x0 2) 0)).2 : Int)) ∧ ((¬ (E (F (F x0 2) 0) ((12 + (x1 * 6)) + 1)) = x2 → (-2147483648 ≤ (12 + (x1 * 6)) + 2 ∧ (12 + (x1 * 6)) + 2 < 2147483648) ∧ ((0 : Int) ≤ (12 + (x1 * 6)) + 2 ∧ (12 + (x1 * 6)) + 2 < ((K (F (F x0 2) 0)).2 : Int)) ∧ (-2147483648 ≤ (E (F (F x0 2) 0) ((12 + (x1 * 6)) + 1)) * 2 ∧ (E (F (F x0 2) 0) ((12 + (x1 * 6)) + 1)) * 2 < 2147483648) ∧ (∀ a1, a1 = (E (F (F x0 2) 0) ((12 + (x1 * 6)) + 1)) * 2 → (-2147483648 ≤ a1 + (E (F (F x0 2) 0) ((12 + (x1 * 6)) + 2)) ∧ a1 + (E (F (F x0 2) 0) ((12 + (x1 * 6)) + 2)) < 2147483648) ∧ (∀ a2, a2 = a1 + (E (F (F x0 2) 0) ((12 + (x1 * 6)) + 2)) → (K (F x0 8)).1 = 20 ∧ ((0 : Int) ≤ a2 ∧ a2 < ((K (F x0 8)).2 : Int)) ∧ Q (some (0, E (F x0 8) a2)) (n, K, F, E)))) ∧ ((E (F (F x0 2) 0) ((12 + (x1 * 6)) + 1)) = x2 → (-2147483648 ≤ (12 + (x1 * 6)) + 3 ∧ (12 + (x1 * 6)) + 3 < 2147483648) ∧ ((0 : Int) ≤ (12 + (x1 * 6)) + 3 ∧ (12 + (x1 * 6)) + 3 < ((K (F (F x0 2) 0)).2 : Int)) ∧ (-2147483648 ≤ (12 + (x1 * 6)) + 4 ∧ (12 + (x1 * 6)) + 4 < 2147483648) ∧ ((0 : Int) ≤ (12 + (x1 * 6)) + 4 ∧ (12 + (x1 * 6)) + 4 < ((K (F (F x0 2) 0)).2 : Int)) ∧ (-2147483648 ≤ (E (F (F x0 2) 0) ((12 + (x1 * 6)) + 3)) * 2 ∧ (E (F (F x0 2) 0) ((12 + (x1 * 6)) + 3)) * 2 < 2147483648) ∧ (∀ a3, a3 = (E (F (F x0 2) 0) ((12 + (x1 * 6)) + 3)) * 2 → (-2147483648 ≤ a3 + (E (F (F x0 2) 0) ((12 + (x1 * 6)) + 4)) ∧ a3 + (E (F (F x0 2) 0) ((12 + (x1 * 6)) + 4)) < 2147483648) ∧ (∀ a4, a4 = a3 + (E (F (F x0 2) 0) ((12 + (x1 * 6)) + 4)) → (K (F x0 8)).1 = 20 ∧ ((0 : Int) ≤ a4 ∧ a4 < ((K (F x0 8)).2 : Int)) ∧ Q (some (0, E (F x0 8) a4)) (n, K, F, E)))))) : PW l G 1 mX6_valueThere bg 0 [(0, (2, x0)), (1, (0, x1)), (2, (0, x2))] [] (n, K, F, E) Q := by
  refine s_aload_n (q := 1) 0 0 rfl rfl ?_
  obtain ⟨c1, h⟩ := h
  refine n_getf (q := 4) (jj := 2) 1 6 2 rfl kX6_25 c1 ?_
  refine s_iload_n (q := 5) 2 1 rfl rfl ?_
  refine s_iconst (q := 6) 3 rfl ?_
  obtain ⟨c2, h⟩ := h
  refine n_callV (N := mX0_part) (as := [(0, x1), (0, 1)]) (st := []) (q := 9) (d' := 0) 4 rfl uX0_part kX6_85 rfl c2 ?_
  show PW l G 0 mX0_part (0, 0) 0 [(0, (2, F x0 2)), (1, (0, x1)), (2, (0, 1))] [] (n, K, F, E) _
  refine s_aload_n (q := 1) 0 0 rfl rfl ?_
  refine n_getf (q := 4) (jj := 0) 1 0 0 rfl kX0_11 c2 ?_
  refine s_bipush (q := 6) 2 rfl ?_
  refine s_iload_n (q := 7) 3 1 rfl rfl ?_
  refine s_bipush (q := 9) 4 rfl ?_
  obtain ⟨c3, h⟩ := h
  refine n_imul (q := 10) 5 rfl c3 ?_
  obtain ⟨c4, h⟩ := h
  refine n_iadd (q := 11) 6 rfl c4 ?_
  refine s_iload_n (q := 12) 7 2 rfl rfl ?_
  obtain ⟨c5, h⟩ := h
  refine n_iadd (q := 13) 8 rfl c5 ?_
  obtain ⟨c6, h⟩ := h
  obtain ⟨c7, h⟩ := h
  refine n_iald (q := 14) 9 rfl c6 c7 ?_
  refine s_iret 10 rfl rfl ?_
  show PW l G 1 mX6_valueThere bg 9 [(0, (2, x0)), (1, (0, x1)), (2, (0, x2))] [(0, E (F (F x0 2) 0) ((12 + (x1 * 6)) + 1))] (n, K, F, E) Q
  refine s_iload_n (q := 10) 5 2 rfl rfl ?_
  refine s_icmp_ne (q := 13) (tgt := 17) 6 rfl rfl (fun hb => ?_) (fun hb => ?_)
  · skip
    have b8 := hb
    replace h := h.1 hb
    refine s_iconst (q := 18) 9 rfl ?_
    refine s_istore_n (q := 19) (lv' := [(3, (0, 0)), (0, (2, x0)), (1, (0, x1)), (2, (0, x2))]) 10 rfl rfl ?_
    refine s_iload_n (q := 20) 11 0 rfl rfl ?_
    refine s_if_eq (q := 23) (tgt := 35) 12 rfl rfl (fun _ => ?_) (fun hb => absurd (by decide) hb)
    refine s_aload_n (q := 36) 19 1 rfl rfl ?_
    refine n_getf (q := 39) (jj := 2) 20 6 2 rfl kX6_25 c1 ?_
    refine s_iload_n (q := 40) 21 2 rfl rfl ?_
    refine s_iconst (q := 41) 22 rfl ?_
    refine n_callV (N := mX0_part) (as := [(0, x1), (0, 1)]) (st := []) (q := 44) (d' := 0) 23 rfl uX0_part kX6_85 rfl c2 ?_
    show PW l G 0 mX0_part (0, 0) 0 [(0, (2, F x0 2)), (1, (0, x1)), (2, (0, 1))] [] (n, K, F, E) _
    refine s_aload_n (q := 1) 0 0 rfl rfl ?_
    refine n_getf (q := 4) (jj := 0) 1 0 0 rfl kX0_11 c2 ?_
    refine s_bipush (q := 6) 2 rfl ?_
    refine s_iload_n (q := 7) 3 1 rfl rfl ?_
    refine s_bipush (q := 9) 4 rfl ?_
    refine n_imul (q := 10) 5 rfl c3 ?_
    refine n_iadd (q := 11) 6 rfl c4 ?_
    refine s_iload_n (q := 12) 7 2 rfl rfl ?_
    refine n_iadd (q := 13) 8 rfl c5 ?_
    refine n_iald (q := 14) 9 rfl c6 c7 ?_
    refine s_iret 10 rfl rfl ?_
    show PW l G 1 mX6_valueThere bg 44 [(3, (0, 0)), (0, (2, x0)), (1, (0, x1)), (2, (0, x2))] [(0, E (F (F x0 2) 0) ((12 + (x1 * 6)) + 1))] (n, K, F, E) Q
    refine s_istore (q := 46) (lv' := [(4, (0, E (F (F x0 2) 0) ((12 + (x1 * 6)) + 1))), (3, (0, 0)), (0, (2, x0)), (1, (0, x1)), (2, (0, x2))]) 24 rfl rfl ?_
    refine s_iload_n (q := 47) 25 1 rfl rfl ?_
    refine s_if_eq (q := 50) (tgt := 62) 26 rfl rfl (fun _ => ?_) (fun hb => absurd (by decide) hb)
    refine s_aload_n (q := 63) 33 2 rfl rfl ?_
    refine n_getf (q := 66) (jj := 2) 34 6 2 rfl kX6_25 c1 ?_
    refine s_iload_n (q := 67) 35 3 rfl rfl ?_
    refine s_iconst (q := 68) 36 rfl ?_
    refine n_callV (N := mX0_part) (as := [(0, x1), (0, 2)]) (st := []) (q := 71) (d' := 0) 37 rfl uX0_part kX6_85 rfl c2 ?_
    show PW l G 0 mX0_part (0, 0) 0 [(0, (2, F x0 2)), (1, (0, x1)), (2, (0, 2))] [] (n, K, F, E) _
    refine s_aload_n (q := 1) 0 0 rfl rfl ?_
    refine n_getf (q := 4) (jj := 0) 1 0 0 rfl kX0_11 c2 ?_
    refine s_bipush (q := 6) 2 rfl ?_
    refine s_iload_n (q := 7) 3 1 rfl rfl ?_
    refine s_bipush (q := 9) 4 rfl ?_
    refine n_imul (q := 10) 5 rfl c3 ?_
    refine n_iadd (q := 11) 6 rfl c4 ?_
    refine s_iload_n (q := 12) 7 2 rfl rfl ?_
    obtain ⟨c9, h⟩ := h
    refine n_iadd (q := 13) 8 rfl c9 ?_
    obtain ⟨c10, h⟩ := h
    refine n_iald (q := 14) 9 rfl c6 c10 ?_
    refine s_iret 10 rfl rfl ?_
    show PW l G 1 mX6_valueThere bg 71 [(4, (0, E (F (F x0 2) 0) ((12 + (x1 * 6)) + 1))), (3, (0, 0)), (0, (2, x0)), (1, (0, x1)), (2, (0, x2))] [(0, E (F (F x0 2) 0) ((12 + (x1 * 6)) + 2))] (n, K, F, E) Q
    refine s_istore (q := 73) (lv' := [(5, (0, E (F (F x0 2) 0) ((12 + (x1 * 6)) + 2))), (4, (0, E (F (F x0 2) 0) ((12 + (x1 * 6)) + 1))), (3, (0, 0)), (0, (2, x0)), (1, (0, x1)), (2, (0, x2))]) 38 rfl rfl ?_
    refine s_aload_n (q := 74) 39 3 rfl rfl ?_
    refine n_getf (q := 77) (jj := 8) 40 6 8 rfl kX6_46 c1 ?_
    refine s_iload (q := 79) 41 1 rfl rfl ?_
    refine s_iconst (q := 80) 42 rfl ?_
    obtain ⟨c11, h⟩ := h
    refine n_imul (q := 81) 43 rfl c11 ?_
    refine PW.name (fun a1 ea1 => ?_)
    replace h := h a1 ea1
    refine s_iload (q := 83) 44 0 rfl rfl ?_
    obtain ⟨c12, h⟩ := h
    refine n_iadd (q := 84) 45 rfl c12 ?_
    refine PW.name (fun a2 ea2 => ?_)
    replace h := h a2 ea2
    obtain ⟨c13, h⟩ := h
    obtain ⟨c14, h⟩ := h
    refine n_iald (q := 85) 46 rfl c13 c14 ?_
    exact s_iret 47 rfl rfl h
  · have hb := Classical.not_not.mp hb
    have b8 := hb
    replace h := h.2 hb
    refine s_iconst (q := 14) 7 rfl ?_
    refine s_goto (tgt := 18) 8 rfl rfl ?_
    refine s_istore_n (q := 19) (lv' := [(3, (0, 1)), (0, (2, x0)), (1, (0, x1)), (2, (0, x2))]) 10 rfl rfl ?_
    refine s_iload_n (q := 20) 11 0 rfl rfl ?_
    refine s_if_eq (q := 23) (tgt := 35) 12 rfl rfl (fun hb => absurd hb (by decide)) (fun _ => ?_)
    refine s_aload_n (q := 24) 13 1 rfl rfl ?_
    refine n_getf (q := 27) (jj := 2) 14 6 2 rfl kX6_25 c1 ?_
    refine s_iload_n (q := 28) 15 2 rfl rfl ?_
    refine s_iconst (q := 29) 16 rfl ?_
    refine n_callV (N := mX0_part) (as := [(0, x1), (0, 3)]) (st := []) (q := 32) (d' := 0) 17 rfl uX0_part kX6_85 rfl c2 ?_
    show PW l G 0 mX0_part (0, 0) 0 [(0, (2, F x0 2)), (1, (0, x1)), (2, (0, 3))] [] (n, K, F, E) _
    refine s_aload_n (q := 1) 0 0 rfl rfl ?_
    refine n_getf (q := 4) (jj := 0) 1 0 0 rfl kX0_11 c2 ?_
    refine s_bipush (q := 6) 2 rfl ?_
    refine s_iload_n (q := 7) 3 1 rfl rfl ?_
    refine s_bipush (q := 9) 4 rfl ?_
    refine n_imul (q := 10) 5 rfl c3 ?_
    refine n_iadd (q := 11) 6 rfl c4 ?_
    refine s_iload_n (q := 12) 7 2 rfl rfl ?_
    obtain ⟨c15, h⟩ := h
    refine n_iadd (q := 13) 8 rfl c15 ?_
    obtain ⟨c16, h⟩ := h
    refine n_iald (q := 14) 9 rfl c6 c16 ?_
    refine s_iret 10 rfl rfl ?_
    show PW l G 1 mX6_valueThere bg 32 [(3, (0, 1)), (0, (2, x0)), (1, (0, x1)), (2, (0, x2))] [(0, E (F (F x0 2) 0) ((12 + (x1 * 6)) + 3))] (n, K, F, E) Q
    refine s_goto (tgt := 44) 18 rfl rfl ?_
    refine s_istore (q := 46) (lv' := [(4, (0, E (F (F x0 2) 0) ((12 + (x1 * 6)) + 3))), (3, (0, 1)), (0, (2, x0)), (1, (0, x1)), (2, (0, x2))]) 24 rfl rfl ?_
    refine s_iload_n (q := 47) 25 1 rfl rfl ?_
    refine s_if_eq (q := 50) (tgt := 62) 26 rfl rfl (fun hb => absurd hb (by decide)) (fun _ => ?_)
    refine s_aload_n (q := 51) 27 2 rfl rfl ?_
    refine n_getf (q := 54) (jj := 2) 28 6 2 rfl kX6_25 c1 ?_
    refine s_iload_n (q := 55) 29 3 rfl rfl ?_
    refine s_iconst (q := 56) 30 rfl ?_
    refine n_callV (N := mX0_part) (as := [(0, x1), (0, 4)]) (st := []) (q := 59) (d' := 0) 31 rfl uX0_part kX6_85 rfl c2 ?_
    show PW l G 0 mX0_part (0, 0) 0 [(0, (2, F x0 2)), (1, (0, x1)), (2, (0, 4))] [] (n, K, F, E) _
    refine s_aload_n (q := 1) 0 0 rfl rfl ?_
    refine n_getf (q := 4) (jj := 0) 1 0 0 rfl kX0_11 c2 ?_
    refine s_bipush (q := 6) 2 rfl ?_
    refine s_iload_n (q := 7) 3 1 rfl rfl ?_
    refine s_bipush (q := 9) 4 rfl ?_
    refine n_imul (q := 10) 5 rfl c3 ?_
    refine n_iadd (q := 11) 6 rfl c4 ?_
    refine s_iload_n (q := 12) 7 2 rfl rfl ?_
    obtain ⟨c17, h⟩ := h
    refine n_iadd (q := 13) 8 rfl c17 ?_
    obtain ⟨c18, h⟩ := h
    refine n_iald (q := 14) 9 rfl c6 c18 ?_
    refine s_iret 10 rfl rfl ?_
    show PW l G 1 mX6_valueThere bg 59 [(4, (0, E (F (F x0 2) 0) ((12 + (x1 * 6)) + 3))), (3, (0, 1)), (0, (2, x0)), (1, (0, x1)), (2, (0, x2))] [(0, E (F (F x0 2) 0) ((12 + (x1 * 6)) + 4))] (n, K, F, E) Q
    refine s_goto (tgt := 71) 32 rfl rfl ?_
    refine s_istore (q := 73) (lv' := [(5, (0, E (F (F x0 2) 0) ((12 + (x1 * 6)) + 4))), (4, (0, E (F (F x0 2) 0) ((12 + (x1 * 6)) + 3))), (3, (0, 1)), (0, (2, x0)), (1, (0, x1)), (2, (0, x2))]) 38 rfl rfl ?_
    refine s_aload_n (q := 74) 39 3 rfl rfl ?_
    refine n_getf (q := 77) (jj := 8) 40 6 8 rfl kX6_46 c1 ?_
    refine s_iload (q := 79) 41 1 rfl rfl ?_
    refine s_iconst (q := 80) 42 rfl ?_
    obtain ⟨c19, h⟩ := h
    refine n_imul (q := 81) 43 rfl c19 ?_
    refine PW.name (fun a3 ea3 => ?_)
    replace h := h a3 ea3
    refine s_iload (q := 83) 44 0 rfl rfl ?_
    obtain ⟨c20, h⟩ := h
    refine n_iadd (q := 84) 45 rfl c20 ?_
    refine PW.name (fun a4 ea4 => ?_)
    replace h := h a4 ea4
    obtain ⟨c21, h⟩ := h
    obtain ⟨c22, h⟩ := h
    refine n_iald (q := 85) 46 rfl c21 c22 ?_
    exact s_iret 47 rfl rfl h
theorem vX6_looksAt_0 {l : Launch} {G : pG} {bg : Nat × Nat} {n : Nat} {K : Int → Nat × Nat} {F E : Int → Int → Int} {Q : Option pV → pM → Prop} (x0 x1 x2 : Int) (h : (K x0).1 = 6 ∧ PC l G 1 mX6_fieldIn (0, 0) [(2, x0), (0, x1), (0, x2)] (n, K, F, E) (fun r μ => PW l G 2 mX6_looksAt bg 6 [(0, (2, x0)), (1, (0, x1)), (2, (0, x2))] (r.toList ++ []) μ Q)) : PW l G 2 mX6_looksAt bg 0 [(0, (2, x0)), (1, (0, x1)), (2, (0, x2))] [] (n, K, F, E) Q := by
  refine s_aload_n (q := 1) 0 0 rfl rfl ?_
  refine s_iload_n (q := 2) 1 1 rfl rfl ?_
  refine s_iload_n (q := 3) 2 2 rfl rfl ?_
  obtain ⟨c1, h⟩ := h
  refine PW.pick [0, 1, 2] rfl ?_
  exact n_callV (N := mX6_fieldIn) (as := [(0, x1), (0, x2)]) (st := []) (q := 6) (d' := 1) 3 rfl uX6_fieldIn kX6_126 rfl c1 h
theorem vX6_looksAt_6 {l : Launch} {G : pG} {bg : Nat × Nat} {n : Nat} {K : Int → Nat × Nat} {F E : Int → Int → Int} {Q : Option pV → pM → Prop} (x0 x1 x2 s0 : Int) (h : (K x0).1 = 6 ∧ (K (F x0 2)).1 = 0 ∧ (-2147483648 ≤ 6 + x2 ∧ 6 + x2 < 2147483648) ∧ (K (F (F x0 2) 0)).1 = 20 ∧ ((0 : Int) ≤ 6 + x2 ∧ 6 + x2 < ((K (F (F x0 2) 0)).2 : Int)) ∧ ((E (F (F x0 2) 0) (6 + x2) = s0 → PC l G 1 mX6_valueThere (0, 0) [(2, x0), (0, x1), (0, x2)] (n, K, F, E) (fun r μ => PW l G 2 mX6_looksAt bg 34 [(0, (2, x0)), (2, (0, x2)), (3, (0, s0))] (r.toList ++ []) μ Q)) ∧ (¬ (E (F (F x0 2) 0) (6 + x2) = s0) → (-2147483648 ≤ 9 + x2 ∧ 9 + x2 < 2147483648) ∧ ((0 : Int) ≤ 9 + x2 ∧ 9 + x2 < ((K (F (F x0 2) 0)).2 : Int)) ∧ Q (some (0, E (F (F x0 2) 0) (9 + x2))) (n, K, F, E)))) : PW l G 2 mX6_looksAt bg 6 [(0, (2, x0)), (1, (0, x1)), (2, (0, x2))] [(0, s0)] (n, K, F, E) Q := by
  refine s_istore_n (q := 7) (lv' := [(3, (0, s0)), (0, (2, x0)), (1, (0, x1)), (2, (0, x2))]) 4 rfl rfl ?_
  refine s_aload_n (q := 8) 5 1 rfl rfl ?_
  obtain ⟨c1, h⟩ := h
  refine n_getf (q := 11) (jj := 2) 6 6 2 rfl kX6_25 c1 ?_
  refine s_iload_n (q := 12) 7 3 rfl rfl ?_
  obtain ⟨c2, h⟩ := h
  refine n_callV (N := mX0_indexOn) (as := [(0, x2)]) (st := []) (q := 15) (d' := 0) 8 rfl uX0_indexOn kX6_153 rfl c2 ?_
  show PW l G 0 mX0_indexOn (0, 0) 0 [(0, (2, F x0 2)), (1, (0, x2))] [] (n, K, F, E) _
  refine s_aload_n (q := 1) 0 0 rfl rfl ?_
  refine n_getf (q := 4) (jj := 0) 1 0 0 rfl kX0_11 c2 ?_
  refine s_bipush (q := 6) 2 rfl ?_
  refine s_iload_n (q := 7) 3 1 rfl rfl ?_
  obtain ⟨c3, h⟩ := h
  refine n_iadd (q := 8) 4 rfl c3 ?_
  obtain ⟨c4, h⟩ := h
  obtain ⟨c5, h⟩ := h
  refine n_iald (q := 9) 5 rfl c4 c5 ?_
  refine s_iret 6 rfl rfl ?_
  show PW l G 2 mX6_looksAt bg 15 [(3, (0, s0)), (0, (2, x0)), (1, (0, x1)), (2, (0, x2))] [(0, E (F (F x0 2) 0) (6 + x2))] (n, K, F, E) Q
  refine s_iload_n (q := 16) 9 0 rfl rfl ?_
  refine s_icmp_eq (q := 19) (tgt := 28) 10 rfl rfl (fun hb => ?_) (fun hb => ?_)
  · skip
    have b6 := hb
    replace h := h.1 hb
    refine s_aload_n (q := 29) 16 1 rfl rfl ?_
    refine s_iload_n (q := 30) 17 2 rfl rfl ?_
    refine s_iload_n (q := 31) 18 3 rfl rfl ?_
    refine PW.pick [1, 3, 0] rfl ?_
    exact n_callV (N := mX6_valueThere) (as := [(0, x1), (0, x2)]) (st := []) (q := 34) (d' := 1) 19 rfl uX6_valueThere kX6_129 rfl c1 h
  · skip
    have b6 := hb
    replace h := h.2 hb
    refine s_aload_n (q := 20) 11 1 rfl rfl ?_
    refine n_getf (q := 23) (jj := 2) 12 6 2 rfl kX6_25 c1 ?_
    refine s_iload_n (q := 24) 13 3 rfl rfl ?_
    refine n_callV (N := mX0_held) (as := [(0, x2)]) (st := []) (q := 27) (d' := 0) 14 rfl uX0_held kX6_137 rfl c2 ?_
    show PW l G 0 mX0_held (0, 0) 0 [(0, (2, F x0 2)), (1, (0, x2))] [] (n, K, F, E) _
    refine s_aload_n (q := 1) 0 0 rfl rfl ?_
    refine n_getf (q := 4) (jj := 0) 1 0 0 rfl kX0_11 c2 ?_
    refine s_bipush (q := 6) 2 rfl ?_
    refine s_iload_n (q := 7) 3 1 rfl rfl ?_
    obtain ⟨c7, h⟩ := h
    refine n_iadd (q := 8) 4 rfl c7 ?_
    obtain ⟨c8, h⟩ := h
    refine n_iald (q := 9) 5 rfl c4 c8 ?_
    refine s_iret 6 rfl rfl ?_
    show PW l G 2 mX6_looksAt bg 27 [(3, (0, s0)), (0, (2, x0)), (1, (0, x1)), (2, (0, x2))] [(0, E (F (F x0 2) 0) (9 + x2))] (n, K, F, E) Q
    exact s_iret 15 rfl rfl h
theorem vX6_looksAt_34 {l : Launch} {G : pG} {bg : Nat × Nat} {n : Nat} {K : Int → Nat × Nat} {F E : Int → Int → Int} {Q : Option pV → pM → Prop} (x0 x2 x3 s0 : Int) (h : (-2147483648 ≤ s0 * s0 ∧ s0 * s0 < 2147483648) ∧ (-2147483648 ≤ (s0 * s0) * 7 ∧ (s0 * s0) * 7 < 2147483648) ∧ (-2147483648 ≤ ((s0 * s0) * 7) + 3 ∧ ((s0 * s0) * 7) + 3 < 2147483648) ∧ PW l G 2 mX6_looksAt bg 45 [(0, (2, x0)), (2, (0, x2)), (3, (0, x3)), (4, (0, (((s0 * s0) * 7) + 3).tmod 5)), (5, (0, 0)), (6, (0, 0))] [] (n, K, F, E) Q) : PW l G 2 mX6_looksAt bg 34 [(0, (2, x0)), (2, (0, x2)), (3, (0, x3))] [(0, s0)] (n, K, F, E) Q := by
  refine n_callS (N := mX6_bucketOf) (as := [(0, s0)]) (st := []) (q := 37) (d' := 0) 20 rfl uX6_bucketOf kX6_156 rfl ?_
  show PW l G 0 mX6_bucketOf (0, 0) 0 [(0, (0, s0))] [] (n, K, F, E) _
  refine s_iload_n (q := 1) 0 0 rfl rfl ?_
  refine s_iload_n (q := 2) 1 0 rfl rfl ?_
  obtain ⟨c1, h⟩ := h
  refine n_imul (q := 3) 2 rfl c1 ?_
  refine s_bipush (q := 5) 3 rfl ?_
  obtain ⟨c2, h⟩ := h
  refine n_imul (q := 6) 4 rfl c2 ?_
  refine s_iconst (q := 7) 5 rfl ?_
  obtain ⟨c3, h⟩ := h
  refine n_iadd (q := 8) 6 rfl c3 ?_
  refine s_iconst (q := 9) 7 rfl ?_
  refine s_irem (q := 10) 8 rfl (by decide) ?_
  refine s_iret 9 rfl rfl ?_
  show PW l G 2 mX6_looksAt bg 37 [(0, (2, x0)), (2, (0, x2)), (3, (0, x3))] [(0, (((s0 * s0) * 7) + 3).tmod 5)] (n, K, F, E) Q
  refine s_istore (q := 39) (lv' := [(4, (0, (((s0 * s0) * 7) + 3).tmod 5)), (0, (2, x0)), (2, (0, x2)), (3, (0, x3))]) 21 rfl rfl ?_
  refine s_iconst (q := 40) 22 rfl ?_
  refine s_istore (q := 42) (lv' := [(5, (0, 0)), (4, (0, (((s0 * s0) * 7) + 3).tmod 5)), (0, (2, x0)), (2, (0, x2)), (3, (0, x3))]) 23 rfl rfl ?_
  refine s_iconst (q := 43) 24 rfl ?_
  refine s_istore (q := 45) (lv' := [(6, (0, 0)), (5, (0, 0)), (4, (0, (((s0 * s0) * 7) + 3).tmod 5)), (0, (2, x0)), (2, (0, x2)), (3, (0, x3))]) 25 rfl rfl ?_
  refine PW.pick [3, 4, 5, 2, 1, 0] rfl ?_
  exact h
theorem vX6_looksAt_45 {l : Launch} {G : pG} {bg : Nat × Nat} {n : Nat} {K : Int → Nat × Nat} {F E : Int → Int → Int} {Q : Option pV → pM → Prop} (x0 x2 x3 x4 x5 x6 : Int) (h : (K x0).1 = 6 ∧ (K (F x0 2)).1 = 0 ∧ (-2147483648 ≤ 9 + x2 ∧ 9 + x2 < 2147483648) ∧ (K (F (F x0 2) 0)).1 = 20 ∧ ((0 : Int) ≤ 9 + x2 ∧ 9 + x2 < ((K (F (F x0 2) 0)).2 : Int)) ∧ ((E (F (F x0 2) 0) (9 + x2) ≤ x6 → Q (some (0, x5)) (n, K, F, E)) ∧ (¬ (E (F (F x0 2) 0) (9 + x2) ≤ x6) → (-2147483648 ≤ x2 * 9 ∧ x2 * 9 < 2147483648) ∧ (-2147483648 ≤ (x2 * 9) + x6 ∧ (x2 * 9) + x6 < 2147483648) ∧ (-2147483648 ≤ ((x2 * 9) + x6) * 3 ∧ ((x2 * 9) + x6) * 3 < 2147483648) ∧ (-2147483648 ≤ 36 + (((x2 * 9) + x6) * 3) ∧ 36 + (((x2 * 9) + x6) * 3) < 2147483648) ∧ (-2147483648 ≤ (36 + (((x2 * 9) + x6) * 3)) + x3 ∧ (36 + (((x2 * 9) + x6) * 3)) + x3 < 2147483648) ∧ ((0 : Int) ≤ (36 + (((x2 * 9) + x6) * 3)) + x3 ∧ (36 + (((x2 * 9) + x6) * 3)) + x3 < ((K (F (F x0 2) 0)).2 : Int)) ∧ (∀ a1, a1 = E (F (F x0 2) 0) ((36 + (((x2 * 9) + x6) * 3)) + x3) → (-2147483648 ≤ a1 * a1 ∧ a1 * a1 < 2147483648) ∧ (-2147483648 ≤ (a1 * a1) * 7 ∧ (a1 * a1) * 7 < 2147483648) ∧ (-2147483648 ≤ ((a1 * a1) * 7) + 3 ∧ ((a1 * a1) * 7) + 3 < 2147483648) ∧ ((¬ ((((a1 * a1) * 7) + 3).tmod 5) = x4 → (-2147483648 ≤ x6 + 1 ∧ x6 + 1 < 2147483648) ∧ PW l G 2 mX6_looksAt bg 45 [(0, (2, x0)), (2, (0, x2)), (3, (0, x3)), (4, (0, x4)), (5, (0, x5)), (6, (0, x6 + 1))] [] (n, K, F, E) Q) ∧ (((((a1 * a1) * 7) + 3).tmod 5) = x4 → (-2147483648 ≤ x5 + 1 ∧ x5 + 1 < 2147483648) ∧ (-2147483648 ≤ x6 + 1 ∧ x6 + 1 < 2147483648) ∧ PW l G 2 mX6_looksAt bg 45 [(0, (2, x0)), (2, (0, x2)), (3, (0, x3)), (4, (0, x4)), (5, (0, x5 + 1)), (6, (0, x6 + 1))] [] (n, K, F, E) Q)))))) : PW l G 2 mX6_looksAt bg 45 [(0, (2, x0)), (2, (0, x2)), (3, (0, x3)), (4, (0, x4)), (5, (0, x5)), (6, (0, x6))] [] (n, K, F, E) Q := by
  refine s_iload (q := 47) 26 5 rfl rfl ?_
  refine s_aload_n (q := 48) 27 0 rfl rfl ?_
  obtain ⟨c1, h⟩ := h
  refine n_getf (q := 51) (jj := 2) 28 6 2 rfl kX6_25 c1 ?_
  refine s_iload_n (q := 52) 29 1 rfl rfl ?_
  obtain ⟨c2, h⟩ := h
  refine n_callV (N := mX0_held) (as := [(0, x2)]) (st := [(0, x6)]) (q := 55) (d' := 0) 30 rfl uX0_held kX6_137 rfl c2 ?_
  show PW l G 0 mX0_held (0, 0) 0 [(0, (2, F x0 2)), (1, (0, x2))] [] (n, K, F, E) _
  refine s_aload_n (q := 1) 0 0 rfl rfl ?_
  refine n_getf (q := 4) (jj := 0) 1 0 0 rfl kX0_11 c2 ?_
  refine s_bipush (q := 6) 2 rfl ?_
  refine s_iload_n (q := 7) 3 1 rfl rfl ?_
  obtain ⟨c3, h⟩ := h
  refine n_iadd (q := 8) 4 rfl c3 ?_
  obtain ⟨c4, h⟩ := h
  obtain ⟨c5, h⟩ := h
  refine n_iald (q := 9) 5 rfl c4 c5 ?_
  refine s_iret 6 rfl rfl ?_
  show PW l G 2 mX6_looksAt bg 55 [(0, (2, x0)), (2, (0, x2)), (3, (0, x3)), (4, (0, x4)), (5, (0, x5)), (6, (0, x6))] [(0, E (F (F x0 2) 0) (9 + x2)), (0, x6)] (n, K, F, E) Q
  refine s_icmp_ge (q := 58) (tgt := 86) 31 rfl rfl (fun hb => ?_) (fun hb => ?_)
  · skip
    have b6 := hb
    replace h := h.1 hb
    refine s_iload (q := 88) 44 4 rfl rfl ?_
    exact s_iret 45 rfl rfl h
  · skip
    have b6 := hb
    replace h := h.2 hb
    refine s_aload_n (q := 59) 32 0 rfl rfl ?_
    refine n_getf (q := 62) (jj := 2) 33 6 2 rfl kX6_25 c1 ?_
    refine s_iload_n (q := 63) 34 1 rfl rfl ?_
    refine s_iload (q := 65) 35 5 rfl rfl ?_
    refine s_iload_n (q := 66) 36 2 rfl rfl ?_
    refine n_callV (N := mX0_cell) (as := [(0, x2), (0, x6), (0, x3)]) (st := []) (q := 69) (d' := 0) 37 rfl uX0_cell kX6_140 rfl c2 ?_
    show PW l G 0 mX0_cell (0, 0) 0 [(0, (2, F x0 2)), (1, (0, x2)), (2, (0, x6)), (3, (0, x3))] [] (n, K, F, E) _
    refine s_aload_n (q := 1) 0 0 rfl rfl ?_
    refine n_getf (q := 4) (jj := 0) 1 0 0 rfl kX0_11 c2 ?_
    refine s_bipush (q := 6) 2 rfl ?_
    refine s_iload_n (q := 7) 3 1 rfl rfl ?_
    refine s_bipush (q := 9) 4 rfl ?_
    obtain ⟨c7, h⟩ := h
    refine n_imul (q := 10) 5 rfl c7 ?_
    refine s_iload_n (q := 11) 6 2 rfl rfl ?_
    obtain ⟨c8, h⟩ := h
    refine n_iadd (q := 12) 7 rfl c8 ?_
    refine s_iconst (q := 13) 8 rfl ?_
    obtain ⟨c9, h⟩ := h
    refine n_imul (q := 14) 9 rfl c9 ?_
    obtain ⟨c10, h⟩ := h
    refine n_iadd (q := 15) 10 rfl c10 ?_
    refine s_iload_n (q := 16) 11 3 rfl rfl ?_
    obtain ⟨c11, h⟩ := h
    refine n_iadd (q := 17) 12 rfl c11 ?_
    obtain ⟨c12, h⟩ := h
    refine n_iald (q := 18) 13 rfl c4 c12 ?_
    refine PW.name (fun a1 ea1 => ?_)
    replace h := h a1 ea1
    refine s_iret 14 rfl rfl ?_
    show PW l G 2 mX6_looksAt bg 69 [(0, (2, x0)), (2, (0, x2)), (3, (0, x3)), (4, (0, x4)), (5, (0, x5)), (6, (0, x6))] [(0, a1)] (n, K, F, E) Q
    refine n_callS (N := mX6_bucketOf) (as := [(0, a1)]) (st := []) (q := 72) (d' := 0) 38 rfl uX6_bucketOf kX6_156 rfl ?_
    show PW l G 0 mX6_bucketOf (0, 0) 0 [(0, (0, a1))] [] (n, K, F, E) _
    refine s_iload_n (q := 1) 0 0 rfl rfl ?_
    refine s_iload_n (q := 2) 1 0 rfl rfl ?_
    obtain ⟨c13, h⟩ := h
    refine n_imul (q := 3) 2 rfl c13 ?_
    refine s_bipush (q := 5) 3 rfl ?_
    obtain ⟨c14, h⟩ := h
    refine n_imul (q := 6) 4 rfl c14 ?_
    refine s_iconst (q := 7) 5 rfl ?_
    obtain ⟨c15, h⟩ := h
    refine n_iadd (q := 8) 6 rfl c15 ?_
    refine s_iconst (q := 9) 7 rfl ?_
    refine s_irem (q := 10) 8 rfl (by decide) ?_
    refine s_iret 9 rfl rfl ?_
    show PW l G 2 mX6_looksAt bg 72 [(0, (2, x0)), (2, (0, x2)), (3, (0, x3)), (4, (0, x4)), (5, (0, x5)), (6, (0, x6))] [(0, (((a1 * a1) * 7) + 3).tmod 5)] (n, K, F, E) Q
    refine s_iload (q := 74) 39 3 rfl rfl ?_
    refine s_icmp_ne (q := 77) (tgt := 80) 40 rfl rfl (fun hb => ?_) (fun hb => ?_)
    · skip
      have b16 := hb
      replace h := h.1 hb
      obtain ⟨c17, h⟩ := h
      refine n_iinc (q := 83) (lv' := [(6, (0, x6 + 1)), (0, (2, x0)), (2, (0, x2)), (3, (0, x3)), (4, (0, x4)), (5, (0, x5))]) 42 5 rfl rfl c17 rfl ?_
      refine s_goto (tgt := 45) 43 rfl rfl ?_
      refine PW.pick [1, 2, 3, 4, 5, 0] rfl ?_
      exact h
    · have hb := Classical.not_not.mp hb
      have b16 := hb
      replace h := h.2 hb
      obtain ⟨c18, h⟩ := h
      refine n_iinc (q := 80) (lv' := [(5, (0, x5 + 1)), (0, (2, x0)), (2, (0, x2)), (3, (0, x3)), (4, (0, x4)), (6, (0, x6))]) 41 4 rfl rfl c18 rfl ?_
      obtain ⟨c19, h⟩ := h
      refine n_iinc (q := 83) (lv' := [(6, (0, x6 + 1)), (5, (0, x5 + 1)), (0, (2, x0)), (2, (0, x2)), (3, (0, x3)), (4, (0, x4))]) 42 5 rfl rfl c19 rfl ?_
      refine s_goto (tgt := 45) 43 rfl rfl ?_
      refine PW.pick [2, 3, 4, 5, 1, 0] rfl ?_
      exact h
theorem vX6_isSo_0 {l : Launch} {G : pG} {bg : Nat × Nat} {n : Nat} {K : Int → Nat × Nat} {F E : Int → Int → Int} {Q : Option pV → pM → Prop} (x0 x1 : Int) (h : (K x0).1 = 6 ∧ (K (F x0 2)).1 = 0 ∧ (-2147483648 ≤ x1 * 6 ∧ x1 * 6 < 2147483648) ∧ (-2147483648 ≤ 12 + (x1 * 6) ∧ 12 + (x1 * 6) < 2147483648) ∧ (-2147483648 ≤ (12 + (x1 * 6)) + 1 ∧ (12 + (x1 * 6)) + 1 < 2147483648) ∧ (K (F (F x0 2) 0)).1 = 20 ∧ ((0 : Int) ≤ (12 + (x1 * 6)) + 1 ∧ (12 + (x1 * 6)) + 1 < ((K (F (F x0 2) 0)).2 : Int)) ∧ (-2147483648 ≤ (E (F (F x0 2) 0) ((12 + (x1 * 6)) + 1)) * 2 ∧ (E (F (F x0 2) 0) ((12 + (x1 * 6)) + 1)) * 2 < 2147483648) ∧ (∀ a1, a1 = (E (F (F x0 2) 0) ((12 + (x1 * 6)) + 1)) * 2 → (-2147483648 ≤ (12 + (x1 * 6)) + 2 ∧ (12 + (x1 * 6)) + 2 < 2147483648) ∧ ((0 : Int) ≤ (12 + (x1 * 6)) + 2 ∧ (12 + (x1 * 6)) + 2 < ((K (F (F x0 2) 0)).2 : Int)) ∧ (-2147483648 ≤ a1 + (E (F (F x0 2) 0) ((12 + (x1 * 6)) + 2)) ∧ a1 + (E (F (F x0 2) 0) ((12 + (x1 * 6)) + 2)) < 2147483648) ∧ (∀ a2, a2 = a1 + (E (F (F x0 2) 0) ((12 + (x1 * 6)) + 2)) → (K (F x0 8)).1 = 20 ∧ ((0 : Int) ≤ a2 ∧ a2 < ((K (F x0 8)).2 : Int)) ∧ (-2147483648 ≤ (12 + (x1 * 6)) + 3 ∧ (12 + (x1 * 6)) + 3 < 2147483648) ∧ ((0 : Int) ≤ (12 + (x1 * 6)) + 3 ∧ (12 + (x1 * 6)) + 3 < ((K (F (F x0 2) 0)).2 : Int)) ∧ (-2147483648 ≤ (12 + (x1 * 6)) + 4 ∧ (12 + (x1 * 6)) + 4 < 2147483648) ∧ ((0 : Int) ≤ (12 + (x1 * 6)) + 4 ∧ (12 + (x1 * 6)) + 4 < ((K (F (F x0 2) 0)).2 : Int)) ∧ (-2147483648 ≤ (12 + (x1 * 6)) + 0 ∧ (12 + (x1 * 6)) + 0 < 2147483648) ∧ ((0 : Int) ≤ (12 + (x1 * 6)) + 0 ∧ (12 + (x1 * 6)) + 0 < ((K (F (F x0 2) 0)).2 : Int)) ∧ ((¬ (E (F (F x0 2) 0) ((12 + (x1 * 6)) + 0)) = 0 → ((¬ (E (F (F x0 2) 0) ((12 + (x1 * 6)) + 3)) = 0 → ((¬ (E (F (F x0 2) 0) ((12 + (x1 * 6)) + 3)) = 1 → ((E (F x0 8) a2 ≤ E (F (F x0 2) 0) ((12 + (x1 * 6)) + 4) → Q (some (0, 0)) (n, K, F, E)) ∧ (¬ (E (F x0 8) a2 ≤ E (F (F x0 2) 0) ((12 + (x1 * 6)) + 4)) → Q (some (0, 1)) (n, K, F, E)))) ∧ ((E (F (F x0 2) 0) ((12 + (x1 * 6)) + 3)) = 1 → ((¬ (E (F x0 8) a2) = E (F (F x0 2) 0) ((12 + (x1 * 6)) + 4) → Q (some (0, 0)) (n, K, F, E)) ∧ ((E (F x0 8) a2) = E (F (F x0 2) 0) ((12 + (x1 * 6)) + 4) → Q (some (0, 1)) (n, K, F, E)))))) ∧ ((E (F (F x0 2) 0) ((12 + (x1 * 6)) + 3)) = 0 → ((E (F (F x0 2) 0) ((12 + (x1 * 6)) + 4) ≤ E (F x0 8) a2 → Q (some (0, 0)) (n, K, F, E)) ∧ (¬ (E (F (F x0 2) 0) ((12 + (x1 * 6)) + 4) ≤ E (F x0 8) a2) → Q (some (0, 1)) (n, K, F, E)))))) ∧ ((E (F (F x0 2) 0) ((12 + (x1 * 6)) + 0)) = 0 → (-2147483648 ≤ (E (F (F x0 2) 0) ((12 + (x1 * 6)) + 3)) * 2 ∧ (E (F (F x0 2) 0) ((12 + (x1 * 6)) + 3)) * 2 < 2147483648) ∧ (∀ a3, a3 = (E (F (F x0 2) 0) ((12 + (x1 * 6)) + 3)) * 2 → (-2147483648 ≤ a3 + (E (F (F x0 2) 0) ((12 + (x1 * 6)) + 4)) ∧ a3 + (E (F (F x0 2) 0) ((12 + (x1 * 6)) + 4)) < 2147483648) ∧ (∀ a4, a4 = a3 + (E (F (F x0 2) 0) ((12 + (x1 * 6)) + 4)) → ((0 : Int) ≤ a4 ∧ a4 < ((K (F x0 8)).2 : Int)) ∧ ((¬ (E (F x0 8) a2) = E (F x0 8) a4 → Q (some (0, 0)) (n, K, F, E)) ∧ ((E (F x0 8) a2) = E (F x0 8) a4 → Q (some (0, 1)) (n, K, F, E)))))))))) : PW l G 1 mX6_isSo bg 0 [(0, (2, x0)), (1, (0, x1))] [] (n, K, F, E) Q := by
  refine s_aload_n (q := 1) 0 0 rfl rfl ?_
  obtain ⟨c1, h⟩ := h
  refine n_getf (q := 4) (jj := 8) 1 6 8 rfl kX6_46 c1 ?_
  refine s_aload_n (q := 5) 2 0 rfl rfl ?_
  refine n_getf (q := 8) (jj := 2) 3 6 2 rfl kX6_25 c1 ?_
  refine s_iload_n (q := 9) 4 1 rfl rfl ?_
  refine s_iconst (q := 10) 5 rfl ?_
  obtain ⟨c2, h⟩ := h
  refine n_callV (N := mX0_part) (as := [(0, x1), (0, 1)]) (st := [(2, F x0 8)]) (q := 13) (d' := 0) 6 rfl uX0_part kX6_85 rfl c2 ?_
  show PW l G 0 mX0_part (0, 0) 0 [(0, (2, F x0 2)), (1, (0, x1)), (2, (0, 1))] [] (n, K, F, E) _
  refine s_aload_n (q := 1) 0 0 rfl rfl ?_
  refine n_getf (q := 4) (jj := 0) 1 0 0 rfl kX0_11 c2 ?_
  refine s_bipush (q := 6) 2 rfl ?_
  refine s_iload_n (q := 7) 3 1 rfl rfl ?_
  refine s_bipush (q := 9) 4 rfl ?_
  obtain ⟨c3, h⟩ := h
  refine n_imul (q := 10) 5 rfl c3 ?_
  obtain ⟨c4, h⟩ := h
  refine n_iadd (q := 11) 6 rfl c4 ?_
  refine s_iload_n (q := 12) 7 2 rfl rfl ?_
  obtain ⟨c5, h⟩ := h
  refine n_iadd (q := 13) 8 rfl c5 ?_
  obtain ⟨c6, h⟩ := h
  obtain ⟨c7, h⟩ := h
  refine n_iald (q := 14) 9 rfl c6 c7 ?_
  refine s_iret 10 rfl rfl ?_
  show PW l G 1 mX6_isSo bg 13 [(0, (2, x0)), (1, (0, x1))] [(0, E (F (F x0 2) 0) ((12 + (x1 * 6)) + 1)), (2, F x0 8)] (n, K, F, E) Q
  refine s_iconst (q := 14) 7 rfl ?_
  obtain ⟨c8, h⟩ := h
  refine n_imul (q := 15) 8 rfl c8 ?_
  refine PW.name (fun a1 ea1 => ?_)
  replace h := h a1 ea1
  refine s_aload_n (q := 16) 9 0 rfl rfl ?_
  refine n_getf (q := 19) (jj := 2) 10 6 2 rfl kX6_25 c1 ?_
  refine s_iload_n (q := 20) 11 1 rfl rfl ?_
  refine s_iconst (q := 21) 12 rfl ?_
  refine n_callV (N := mX0_part) (as := [(0, x1), (0, 2)]) (st := [(0, a1), (2, F x0 8)]) (q := 24) (d' := 0) 13 rfl uX0_part kX6_85 rfl c2 ?_
  show PW l G 0 mX0_part (0, 0) 0 [(0, (2, F x0 2)), (1, (0, x1)), (2, (0, 2))] [] (n, K, F, E) _
  refine s_aload_n (q := 1) 0 0 rfl rfl ?_
  refine n_getf (q := 4) (jj := 0) 1 0 0 rfl kX0_11 c2 ?_
  refine s_bipush (q := 6) 2 rfl ?_
  refine s_iload_n (q := 7) 3 1 rfl rfl ?_
  refine s_bipush (q := 9) 4 rfl ?_
  refine n_imul (q := 10) 5 rfl c3 ?_
  refine n_iadd (q := 11) 6 rfl c4 ?_
  refine s_iload_n (q := 12) 7 2 rfl rfl ?_
  obtain ⟨c9, h⟩ := h
  refine n_iadd (q := 13) 8 rfl c9 ?_
  obtain ⟨c10, h⟩ := h
  refine n_iald (q := 14) 9 rfl c6 c10 ?_
  refine s_iret 10 rfl rfl ?_
  show PW l G 1 mX6_isSo bg 24 [(0, (2, x0)), (1, (0, x1))] [(0, E (F (F x0 2) 0) ((12 + (x1 * 6)) + 2)), (0, a1), (2, F x0 8)] (n, K, F, E) Q
  obtain ⟨c11, h⟩ := h
  refine n_iadd (q := 25) 14 rfl c11 ?_
  refine PW.name (fun a2 ea2 => ?_)
  replace h := h a2 ea2
  obtain ⟨c12, h⟩ := h
  obtain ⟨c13, h⟩ := h
  refine n_iald (q := 26) 15 rfl c12 c13 ?_
  refine s_istore_n (q := 27) (lv' := [(2, (0, E (F x0 8) a2)), (0, (2, x0)), (1, (0, x1))]) 16 rfl rfl ?_
  refine s_aload_n (q := 28) 17 1 rfl rfl ?_
  refine n_getf (q := 31) (jj := 2) 18 6 2 rfl kX6_25 c1 ?_
  refine s_iload_n (q := 32) 19 2 rfl rfl ?_
  refine s_iconst (q := 33) 20 rfl ?_
  refine n_callV (N := mX0_part) (as := [(0, x1), (0, 3)]) (st := []) (q := 36) (d' := 0) 21 rfl uX0_part kX6_85 rfl c2 ?_
  show PW l G 0 mX0_part (0, 0) 0 [(0, (2, F x0 2)), (1, (0, x1)), (2, (0, 3))] [] (n, K, F, E) _
  refine s_aload_n (q := 1) 0 0 rfl rfl ?_
  refine n_getf (q := 4) (jj := 0) 1 0 0 rfl kX0_11 c2 ?_
  refine s_bipush (q := 6) 2 rfl ?_
  refine s_iload_n (q := 7) 3 1 rfl rfl ?_
  refine s_bipush (q := 9) 4 rfl ?_
  refine n_imul (q := 10) 5 rfl c3 ?_
  refine n_iadd (q := 11) 6 rfl c4 ?_
  refine s_iload_n (q := 12) 7 2 rfl rfl ?_
  obtain ⟨c14, h⟩ := h
  refine n_iadd (q := 13) 8 rfl c14 ?_
  obtain ⟨c15, h⟩ := h
  refine n_iald (q := 14) 9 rfl c6 c15 ?_
  refine s_iret 10 rfl rfl ?_
  show PW l G 1 mX6_isSo bg 36 [(2, (0, E (F x0 8) a2)), (0, (2, x0)), (1, (0, x1))] [(0, E (F (F x0 2) 0) ((12 + (x1 * 6)) + 3))] (n, K, F, E) Q
  refine s_istore_n (q := 37) (lv' := [(3, (0, E (F (F x0 2) 0) ((12 + (x1 * 6)) + 3))), (2, (0, E (F x0 8) a2)), (0, (2, x0)), (1, (0, x1))]) 22 rfl rfl ?_
  refine s_aload_n (q := 38) 23 2 rfl rfl ?_
  refine n_getf (q := 41) (jj := 2) 24 6 2 rfl kX6_25 c1 ?_
  refine s_iload_n (q := 42) 25 3 rfl rfl ?_
  refine s_iconst (q := 43) 26 rfl ?_
  refine n_callV (N := mX0_part) (as := [(0, x1), (0, 4)]) (st := []) (q := 46) (d' := 0) 27 rfl uX0_part kX6_85 rfl c2 ?_
  show PW l G 0 mX0_part (0, 0) 0 [(0, (2, F x0 2)), (1, (0, x1)), (2, (0, 4))] [] (n, K, F, E) _
  refine s_aload_n (q := 1) 0 0 rfl rfl ?_
  refine n_getf (q := 4) (jj := 0) 1 0 0 rfl kX0_11 c2 ?_
  refine s_bipush (q := 6) 2 rfl ?_
  refine s_iload_n (q := 7) 3 1 rfl rfl ?_
  refine s_bipush (q := 9) 4 rfl ?_
  refine n_imul (q := 10) 5 rfl c3 ?_
  refine n_iadd (q := 11) 6 rfl c4 ?_
  refine s_iload_n (q := 12) 7 2 rfl rfl ?_
  obtain ⟨c16, h⟩ := h
  refine n_iadd (q := 13) 8 rfl c16 ?_
  obtain ⟨c17, h⟩ := h
  refine n_iald (q := 14) 9 rfl c6 c17 ?_
  refine s_iret 10 rfl rfl ?_
  show PW l G 1 mX6_isSo bg 46 [(3, (0, E (F (F x0 2) 0) ((12 + (x1 * 6)) + 3))), (2, (0, E (F x0 8) a2)), (0, (2, x0)), (1, (0, x1))] [(0, E (F (F x0 2) 0) ((12 + (x1 * 6)) + 4))] (n, K, F, E) Q
  refine s_istore (q := 48) (lv' := [(4, (0, E (F (F x0 2) 0) ((12 + (x1 * 6)) + 4))), (3, (0, E (F (F x0 2) 0) ((12 + (x1 * 6)) + 3))), (2, (0, E (F x0 8) a2)), (0, (2, x0)), (1, (0, x1))]) 28 rfl rfl ?_
  refine s_aload_n (q := 49) 29 3 rfl rfl ?_
  refine n_getf (q := 52) (jj := 2) 30 6 2 rfl kX6_25 c1 ?_
  refine s_iload_n (q := 53) 31 4 rfl rfl ?_
  refine s_iconst (q := 54) 32 rfl ?_
  refine n_callV (N := mX0_part) (as := [(0, x1), (0, 0)]) (st := []) (q := 57) (d' := 0) 33 rfl uX0_part kX6_85 rfl c2 ?_
  show PW l G 0 mX0_part (0, 0) 0 [(0, (2, F x0 2)), (1, (0, x1)), (2, (0, 0))] [] (n, K, F, E) _
  refine s_aload_n (q := 1) 0 0 rfl rfl ?_
  refine n_getf (q := 4) (jj := 0) 1 0 0 rfl kX0_11 c2 ?_
  refine s_bipush (q := 6) 2 rfl ?_
  refine s_iload_n (q := 7) 3 1 rfl rfl ?_
  refine s_bipush (q := 9) 4 rfl ?_
  refine n_imul (q := 10) 5 rfl c3 ?_
  refine n_iadd (q := 11) 6 rfl c4 ?_
  refine s_iload_n (q := 12) 7 2 rfl rfl ?_
  obtain ⟨c18, h⟩ := h
  refine n_iadd (q := 13) 8 rfl c18 ?_
  obtain ⟨c19, h⟩ := h
  refine n_iald (q := 14) 9 rfl c6 c19 ?_
  refine s_iret 10 rfl rfl ?_
  show PW l G 1 mX6_isSo bg 57 [(4, (0, E (F (F x0 2) 0) ((12 + (x1 * 6)) + 4))), (3, (0, E (F (F x0 2) 0) ((12 + (x1 * 6)) + 3))), (2, (0, E (F x0 8) a2)), (0, (2, x0)), (1, (0, x1))] [(0, E (F (F x0 2) 0) ((12 + (x1 * 6)) + 0))] (n, K, F, E) Q
  refine s_if_ne (q := 60) (tgt := 81) 34 rfl rfl (fun hb => ?_) (fun hb => ?_)
  · skip
    have b20 := hb
    replace h := h.1 hb
    refine s_iload_n (q := 82) 49 1 rfl rfl ?_
    refine s_if_ne (q := 85) (tgt := 97) 50 rfl rfl (fun hb => ?_) (fun hb => ?_)
    · skip
      have b21 := hb
      replace h := h.1 hb
      refine s_iload_n (q := 98) 58 1 rfl rfl ?_
      refine s_iconst (q := 99) 59 rfl ?_
      refine s_icmp_ne (q := 102) (tgt := 116) 60 rfl rfl (fun hb => ?_) (fun hb => ?_)
      · skip
        have b22 := hb
        replace h := h.1 hb
        refine s_iload_n (q := 117) 68 2 rfl rfl ?_
        refine s_iload (q := 119) 69 0 rfl rfl ?_
        refine s_icmp_le (q := 122) (tgt := 126) 70 rfl rfl (fun hb => ?_) (fun hb => ?_)
        · skip
          have b23 := hb
          replace h := h.1 hb
          refine s_iconst (q := 127) 73 rfl ?_
          exact s_zret 74 rfl rfl (by decide) h
        · skip
          have b23 := hb
          replace h := h.2 hb
          refine s_iconst (q := 123) 71 rfl ?_
          refine s_goto (tgt := 127) 72 rfl rfl ?_
          exact s_zret 74 rfl rfl (by decide) h
      · have hb := Classical.not_not.mp hb
        have b22 := hb
        replace h := h.2 hb
        refine s_iload_n (q := 103) 61 2 rfl rfl ?_
        refine s_iload (q := 105) 62 0 rfl rfl ?_
        refine s_icmp_ne (q := 108) (tgt := 112) 63 rfl rfl (fun hb => ?_) (fun hb => ?_)
        · skip
          have b24 := hb
          replace h := h.1 hb
          refine s_iconst (q := 113) 66 rfl ?_
          refine s_goto (tgt := 127) 67 rfl rfl ?_
          exact s_zret 74 rfl rfl (by decide) h
        · have hb := Classical.not_not.mp hb
          have b24 := hb
          replace h := h.2 hb
          refine s_iconst (q := 109) 64 rfl ?_
          refine s_goto (tgt := 127) 65 rfl rfl ?_
          exact s_zret 74 rfl rfl (by decide) h
    · have hb := Classical.not_not.mp hb
      have b21 := hb
      replace h := h.2 hb
      refine s_iload_n (q := 86) 51 2 rfl rfl ?_
      refine s_iload (q := 88) 52 0 rfl rfl ?_
      refine s_icmp_ge (q := 91) (tgt := 95) 53 rfl rfl (fun hb => ?_) (fun hb => ?_)
      · skip
        have b25 := hb
        replace h := h.1 hb
        refine s_iconst (q := 96) 56 rfl ?_
        exact s_zret 57 rfl rfl (by decide) h
      · skip
        have b25 := hb
        replace h := h.2 hb
        refine s_iconst (q := 92) 54 rfl ?_
        refine s_goto (tgt := 96) 55 rfl rfl ?_
        exact s_zret 57 rfl rfl (by decide) h
  · have hb := Classical.not_not.mp hb
    have b20 := hb
    replace h := h.2 hb
    refine s_iload_n (q := 61) 35 2 rfl rfl ?_
    refine s_aload_n (q := 62) 36 3 rfl rfl ?_
    refine n_getf (q := 65) (jj := 8) 37 6 8 rfl kX6_46 c1 ?_
    refine s_iload_n (q := 66) 38 1 rfl rfl ?_
    refine s_iconst (q := 67) 39 rfl ?_
    obtain ⟨c26, h⟩ := h
    refine n_imul (q := 68) 40 rfl c26 ?_
    refine PW.name (fun a3 ea3 => ?_)
    replace h := h a3 ea3
    refine s_iload (q := 70) 41 0 rfl rfl ?_
    obtain ⟨c27, h⟩ := h
    refine n_iadd (q := 71) 42 rfl c27 ?_
    refine PW.name (fun a4 ea4 => ?_)
    replace h := h a4 ea4
    obtain ⟨c28, h⟩ := h
    refine n_iald (q := 72) 43 rfl c12 c28 ?_
    refine s_icmp_ne (q := 75) (tgt := 79) 44 rfl rfl (fun hb => ?_) (fun hb => ?_)
    · skip
      have b29 := hb
      replace h := h.1 hb
      refine s_iconst (q := 80) 47 rfl ?_
      exact s_zret 48 rfl rfl (by decide) h
    · have hb := Classical.not_not.mp hb
      have b29 := hb
      replace h := h.2 hb
      refine s_iconst (q := 76) 45 rfl ?_
      refine s_goto (tgt := 80) 46 rfl rfl ?_
      exact s_zret 48 rfl rfl (by decide) h
theorem vX6_costOf_0 {l : Launch} {G : pG} {bg : Nat × Nat} {n : Nat} {K : Int → Nat × Nat} {F E : Int → Int → Int} {Q : Option pV → pM → Prop} (x0 x1 x2 x3 : Int) (h : (K x0).1 = 6 ∧ (0 : Int) ≤ F x0 1 ∧ (K (F x0 1)).1 = 20 ∧ ((0 : Int) ≤ 1 ∧ 1 < ((K (F x0 1)).2 : Int)) ∧ (∀ E1, E1 = pUp E (F x0 1) 1 x1 → ((0 : Int) ≤ 5 ∧ 5 < ((K (F x0 1)).2 : Int)) ∧ (∀ E2, E2 = pUp E1 (F x0 1) 5 x2 → (K (F x0 9)).1 = 20 ∧ ((0 : Int) ≤ x1 ∧ x1 < ((K (F x0 9)).2 : Int)) ∧ ((0 : Int) ≤ 0 ∧ 0 < ((K (F x0 1)).2 : Int)) ∧ (∀ E3, E3 = pUp E2 (F x0 1) 0 (E2 (F x0 9) x1) → ((0 : Int) ≤ 6 ∧ 6 < ((K (F x0 1)).2 : Int)) ∧ (∀ E4, E4 = pUp E3 (F x0 1) 6 x3 → ((¬ (F x0 3 = -1) → (K (F x0 3)).1 = 9 ∧ (-2147483648 ≤ (F (F x0 3) 2) - 1 ∧ (F (F x0 3) 2) - 1 < 2147483648) ∧ PW l G 3 mX6_costOf bg 56 [(0, (2, x0)), (2, (0, x2)), (4, (0, (F (F x0 3) 2) - 1))] [] (n, K, F, E4) Q) ∧ (F x0 3 = -1 → PW l G 3 mX6_costOf bg 56 [(0, (2, x0)), (2, (0, x2)), (4, (0, (-1)))] [] (n, K, F, E4) Q))))))) : PW l G 3 mX6_costOf bg 0 [(0, (2, x0)), (1, (0, x1)), (2, (0, x2)), (3, (0, x3))] [] (n, K, F, E) Q := by
  refine s_aload_n (q := 1) 0 0 rfl rfl ?_
  obtain ⟨c1, h⟩ := h
  refine n_getf (q := 4) (jj := 1) 1 6 1 rfl kX6_18 c1 ?_
  refine s_iconst (q := 5) 2 rfl ?_
  refine s_iload_n (q := 6) 3 1 rfl rfl ?_
  obtain ⟨c2, h⟩ := h
  obtain ⟨c3, h⟩ := h
  obtain ⟨c4, h⟩ := h
  refine n_iast (q := 7) 4 rfl c2 c3 c4 ?_
  refine PW.nameE (fun E1 eE1 => ?_)
  replace h := h E1 eE1
  refine s_aload_n (q := 8) 5 0 rfl rfl ?_
  refine n_getf (q := 11) (jj := 1) 6 6 1 rfl kX6_18 c1 ?_
  refine s_iconst (q := 12) 7 rfl ?_
  refine s_iload_n (q := 13) 8 2 rfl rfl ?_
  obtain ⟨c5, h⟩ := h
  refine n_iast (q := 14) 9 rfl c2 c3 c5 ?_
  refine PW.nameE (fun E2 eE2 => ?_)
  replace h := h E2 eE2
  refine s_aload_n (q := 15) 10 0 rfl rfl ?_
  refine n_getf (q := 18) (jj := 1) 11 6 1 rfl kX6_18 c1 ?_
  refine s_iconst (q := 19) 12 rfl ?_
  refine s_aload_n (q := 20) 13 0 rfl rfl ?_
  refine n_getf (q := 23) (jj := 9) 14 6 9 rfl kX6_49 c1 ?_
  refine s_iload_n (q := 24) 15 1 rfl rfl ?_
  obtain ⟨c6, h⟩ := h
  obtain ⟨c7, h⟩ := h
  refine n_iald (q := 25) 16 rfl c6 c7 ?_
  obtain ⟨c8, h⟩ := h
  refine n_iast (q := 26) 17 rfl c2 c3 c8 ?_
  refine PW.nameE (fun E3 eE3 => ?_)
  replace h := h E3 eE3
  refine s_aload_n (q := 27) 18 0 rfl rfl ?_
  refine n_getf (q := 30) (jj := 1) 19 6 1 rfl kX6_18 c1 ?_
  refine s_bipush (q := 32) 20 rfl ?_
  refine s_iload_n (q := 33) 21 3 rfl rfl ?_
  obtain ⟨c9, h⟩ := h
  refine n_iast (q := 34) 22 rfl c2 c3 c9 ?_
  refine PW.nameE (fun E4 eE4 => ?_)
  replace h := h E4 eE4
  refine s_aload_n (q := 35) 23 0 rfl rfl ?_
  refine n_getf (q := 38) (jj := 3) 24 6 3 rfl kX6_29 c1 ?_
  refine s_ifnonnull (q := 41) (tgt := 45) 25 rfl rfl (fun hb => ?_) (fun hb => ?_)
  · replace h := h.1 hb
    refine s_aload_n (q := 46) 28 0 rfl rfl ?_
    refine n_getf (q := 49) (jj := 3) 29 6 3 rfl kX6_29 c1 ?_
    obtain ⟨c10, h⟩ := h
    refine n_getf (q := 52) (jj := 2) 30 9 2 rfl kX6_89 c10 ?_
    refine s_iconst (q := 53) 31 rfl ?_
    obtain ⟨c11, h⟩ := h
    refine n_isub (q := 54) 32 rfl c11 ?_
    refine s_istore (q := 56) (lv' := [(4, (0, (F (F x0 3) 2) - 1)), (0, (2, x0)), (1, (0, x1)), (2, (0, x2)), (3, (0, x3))]) 33 rfl rfl ?_
    refine PW.pick [1, 3, 0] rfl ?_
    exact h
  · have hb := Classical.not_not.mp hb
    replace h := h.2 hb
    refine s_iconst (q := 42) 26 rfl ?_
    refine s_goto (tgt := 54) 27 rfl rfl ?_
    refine s_istore (q := 56) (lv' := [(4, (0, (-1))), (0, (2, x0)), (1, (0, x1)), (2, (0, x2)), (3, (0, x3))]) 33 rfl rfl ?_
    refine PW.pick [1, 3, 0] rfl ?_
    exact h
theorem vX6_costOf_56 {l : Launch} {G : pG} {bg : Nat × Nat} {n : Nat} {K : Int → Nat × Nat} {F E : Int → Int → Int} {Q : Option pV → pM → Prop} (x0 x2 x4 : Int) (h : ((x4 < 0 → Q (some (0, x2)) (n, K, F, E)) ∧ (¬ (x4 < 0) → (K x0).1 = 6 ∧ (K (F x0 3)).1 = 9 ∧ (-2147483648 ≤ x4 * 6 ∧ x4 * 6 < 2147483648) ∧ (-2147483648 ≤ (x4 * 6) + 0 ∧ (x4 * 6) + 0 < 2147483648) ∧ (K (F (F x0 3) 0)).1 = 20 ∧ ((0 : Int) ≤ (x4 * 6) + 0 ∧ (x4 * 6) + 0 < ((K (F (F x0 3) 0)).2 : Int)) ∧ ((¬ (E (F (F x0 3) 0) ((x4 * 6) + 0)) = 0 → (-2147483648 ≤ x4 + (-1) ∧ x4 + (-1) < 2147483648) ∧ PW l G 3 mX6_costOf bg 56 [(0, (2, x0)), (2, (0, x2)), (4, (0, x4 + (-1)))] [] (n, K, F, E) Q) ∧ ((E (F (F x0 3) 0) ((x4 * 6) + 0)) = 0 → (K (F x0 0)).1 = 4 ∧ PC l G 2 mX4_isSo (0, 0) [(2, F x0 0), (2, F x0 3), (0, x4), (2, F x0 1)] (n, K, F, E) (fun r μ => PW l G 3 mX6_costOf bg 91 [(0, (2, x0)), (2, (0, x2)), (4, (0, x4))] (r.toList ++ []) μ Q)))))) : PW l G 3 mX6_costOf bg 56 [(0, (2, x0)), (2, (0, x2)), (4, (0, x4))] [] (n, K, F, E) Q := by
  refine s_iload (q := 58) 34 2 rfl rfl ?_
  refine s_if_lt (q := 61) (tgt := 153) 35 rfl rfl (fun hb => ?_) (fun hb => ?_)
  · skip
    have b1 := hb
    replace h := h.1 hb
    refine s_iload_n (q := 154) 78 1 rfl rfl ?_
    exact s_iret 79 rfl rfl h
  · skip
    have b1 := hb
    replace h := h.2 hb
    refine s_aload_n (q := 62) 36 0 rfl rfl ?_
    obtain ⟨c2, h⟩ := h
    refine n_getf (q := 65) (jj := 3) 37 6 3 rfl kX6_29 c2 ?_
    refine s_iload (q := 67) 38 2 rfl rfl ?_
    refine s_iconst (q := 68) 39 rfl ?_
    obtain ⟨c3, h⟩ := h
    refine n_callV (N := mX9_part) (as := [(0, x4), (0, 0)]) (st := []) (q := 71) (d' := 0) 40 rfl uX9_part kX6_94 rfl c3 ?_
    show PW l G 0 mX9_part (0, 0) 0 [(0, (2, F x0 3)), (1, (0, x4)), (2, (0, 0))] [] (n, K, F, E) _
    refine s_aload_n (q := 1) 0 0 rfl rfl ?_
    refine n_getf (q := 4) (jj := 0) 1 9 0 rfl kX9_11 c3 ?_
    refine s_iload_n (q := 5) 2 1 rfl rfl ?_
    refine s_bipush (q := 7) 3 rfl ?_
    obtain ⟨c4, h⟩ := h
    refine n_imul (q := 8) 4 rfl c4 ?_
    refine s_iload_n (q := 9) 5 2 rfl rfl ?_
    obtain ⟨c5, h⟩ := h
    refine n_iadd (q := 10) 6 rfl c5 ?_
    obtain ⟨c6, h⟩ := h
    obtain ⟨c7, h⟩ := h
    refine n_iald (q := 11) 7 rfl c6 c7 ?_
    refine s_iret 8 rfl rfl ?_
    show PW l G 3 mX6_costOf bg 71 [(0, (2, x0)), (2, (0, x2)), (4, (0, x4))] [(0, E (F (F x0 3) 0) ((x4 * 6) + 0))] (n, K, F, E) Q
    refine s_if_ne (q := 74) (tgt := 147) 41 rfl rfl (fun hb => ?_) (fun hb => ?_)
    · skip
      have b8 := hb
      replace h := h.1 hb
      obtain ⟨c9, h⟩ := h
      refine n_iinc (q := 150) (lv' := [(4, (0, x4 + (-1))), (0, (2, x0)), (2, (0, x2))]) 76 2 rfl rfl c9 rfl ?_
      refine s_goto (tgt := 56) 77 rfl rfl ?_
      refine PW.pick [1, 2, 0] rfl ?_
      exact h
    · have hb := Classical.not_not.mp hb
      have b8 := hb
      replace h := h.2 hb
      refine s_aload_n (q := 75) 42 0 rfl rfl ?_
      refine n_getf (q := 78) (jj := 0) 43 6 0 rfl kX6_12 c2 ?_
      refine s_aload_n (q := 79) 44 0 rfl rfl ?_
      refine n_getf (q := 82) (jj := 3) 45 6 3 rfl kX6_29 c2 ?_
      refine s_iload (q := 84) 46 2 rfl rfl ?_
      refine s_aload_n (q := 85) 47 0 rfl rfl ?_
      refine n_getf (q := 88) (jj := 1) 48 6 1 rfl kX6_18 c2 ?_
      obtain ⟨c10, h⟩ := h
      refine PW.pick [0, 1, 2] rfl ?_
      exact n_callV (N := mX4_isSo) (as := [(2, F x0 3), (0, x4), (2, F x0 1)]) (st := []) (q := 91) (d' := 2) 49 rfl uX4_isSo kX6_95 rfl c10 h
theorem vX6_costOf_91 {l : Launch} {G : pG} {bg : Nat × Nat} {n : Nat} {K : Int → Nat × Nat} {F E : Int → Int → Int} {Q : Option pV → pM → Prop} (x0 x2 x4 s0 : Int) (h : ((s0 = 0 → (-2147483648 ≤ x4 + (-1) ∧ x4 + (-1) < 2147483648) ∧ PW l G 3 mX6_costOf bg 56 [(0, (2, x0)), (2, (0, x2)), (4, (0, x4 + (-1)))] [] (n, K, F, E) Q) ∧ (¬ (s0 = 0) → (K x0).1 = 6 ∧ (K (F x0 3)).1 = 9 ∧ (-2147483648 ≤ x4 * 6 ∧ x4 * 6 < 2147483648) ∧ (-2147483648 ≤ (x4 * 6) + 3 ∧ (x4 * 6) + 3 < 2147483648) ∧ (K (F (F x0 3) 0)).1 = 20 ∧ ((0 : Int) ≤ (x4 * 6) + 3 ∧ (x4 * 6) + 3 < ((K (F (F x0 3) 0)).2 : Int)) ∧ (K (F x0 0)).1 = 4 ∧ PC l G 1 mX4_value (0, 0) [(2, F x0 0), (2, F (F x0 3) 1), (0, E (F (F x0 3) 0) ((x4 * 6) + 3)), (2, F x0 1)] (n, K, F, E) (fun r μ => PW l G 3 mX6_costOf bg 122 [(0, (2, x0)), (2, (0, x2)), (4, (0, x4))] (r.toList ++ []) μ Q)))) : PW l G 3 mX6_costOf bg 91 [(0, (2, x0)), (2, (0, x2)), (4, (0, x4))] [(0, s0)] (n, K, F, E) Q := by
  refine s_if_eq (q := 94) (tgt := 147) 50 rfl rfl (fun hb => ?_) (fun hb => ?_)
  · skip
    have b1 := hb
    replace h := h.1 hb
    obtain ⟨c2, h⟩ := h
    refine n_iinc (q := 150) (lv' := [(4, (0, x4 + (-1))), (0, (2, x0)), (2, (0, x2))]) 76 2 rfl rfl c2 rfl ?_
    refine s_goto (tgt := 56) 77 rfl rfl ?_
    refine PW.pick [1, 2, 0] rfl ?_
    exact h
  · skip
    have b1 := hb
    replace h := h.2 hb
    refine s_aload_n (q := 95) 51 0 rfl rfl ?_
    obtain ⟨c3, h⟩ := h
    refine n_getf (q := 98) (jj := 0) 52 6 0 rfl kX6_12 c3 ?_
    refine s_aload_n (q := 99) 53 0 rfl rfl ?_
    refine n_getf (q := 102) (jj := 3) 54 6 3 rfl kX6_29 c3 ?_
    obtain ⟨c4, h⟩ := h
    refine n_getf (q := 105) (jj := 1) 55 9 1 rfl kX6_159 c4 ?_
    refine s_aload_n (q := 106) 56 0 rfl rfl ?_
    refine n_getf (q := 109) (jj := 3) 57 6 3 rfl kX6_29 c3 ?_
    refine s_iload (q := 111) 58 2 rfl rfl ?_
    refine s_iconst (q := 112) 59 rfl ?_
    refine n_callV (N := mX9_part) (as := [(0, x4), (0, 3)]) (st := [(2, F (F x0 3) 1), (2, F x0 0)]) (q := 115) (d' := 0) 60 rfl uX9_part kX6_94 rfl c4 ?_
    show PW l G 0 mX9_part (0, 0) 0 [(0, (2, F x0 3)), (1, (0, x4)), (2, (0, 3))] [] (n, K, F, E) _
    refine s_aload_n (q := 1) 0 0 rfl rfl ?_
    refine n_getf (q := 4) (jj := 0) 1 9 0 rfl kX9_11 c4 ?_
    refine s_iload_n (q := 5) 2 1 rfl rfl ?_
    refine s_bipush (q := 7) 3 rfl ?_
    obtain ⟨c5, h⟩ := h
    refine n_imul (q := 8) 4 rfl c5 ?_
    refine s_iload_n (q := 9) 5 2 rfl rfl ?_
    obtain ⟨c6, h⟩ := h
    refine n_iadd (q := 10) 6 rfl c6 ?_
    obtain ⟨c7, h⟩ := h
    obtain ⟨c8, h⟩ := h
    refine n_iald (q := 11) 7 rfl c7 c8 ?_
    refine s_iret 8 rfl rfl ?_
    show PW l G 3 mX6_costOf bg 115 [(0, (2, x0)), (2, (0, x2)), (4, (0, x4))] [(0, E (F (F x0 3) 0) ((x4 * 6) + 3)), (2, F (F x0 3) 1), (2, F x0 0)] (n, K, F, E) Q
    refine s_aload_n (q := 116) 61 0 rfl rfl ?_
    refine n_getf (q := 119) (jj := 1) 62 6 1 rfl kX6_18 c3 ?_
    obtain ⟨c9, h⟩ := h
    refine PW.pick [0, 1, 2] rfl ?_
    exact n_callV (N := mX4_value) (as := [(2, F (F x0 3) 1), (0, E (F (F x0 3) 0) ((x4 * 6) + 3)), (2, F x0 1)]) (st := []) (q := 122) (d' := 1) 63 rfl uX4_value kX6_162 rfl c9 h
theorem vX6_costOf_122 {l : Launch} {G : pG} {bg : Nat × Nat} {n : Nat} {K : Int → Nat × Nat} {F E : Int → Int → Int} {Q : Option pV → pM → Prop} (x0 x2 x4 s0 : Int) (h : ((s0 = 2000000000 → (-2147483648 ≤ x4 + (-1) ∧ x4 + (-1) < 2147483648) ∧ PW l G 3 mX6_costOf bg 56 [(0, (2, x0)), (2, (0, x2)), (4, (0, x4 + (-1)))] [] (n, K, F, E) Q) ∧ (¬ (s0 = 2000000000) → (-2147483648 ≤ max 0 (min 99 s0) ∧ max 0 (min 99 s0) < 2147483648) ∧ Q (some (0, max 0 (min 99 s0))) (n, K, F, E)))) : PW l G 3 mX6_costOf bg 122 [(0, (2, x0)), (2, (0, x2)), (4, (0, x4))] [(1, s0)] (n, K, F, E) Q := by
  refine s_lstore (q := 124) (lv' := [(5, (1, s0)), (0, (2, x0)), (2, (0, x2)), (4, (0, x4))]) 64 rfl rfl ?_
  refine s_lload (q := 126) 65 0 rfl rfl ?_
  refine s_ldc2 (q := 129) (x := 2000000000) 66 rfl kX6_166 ?_
  refine s_lcmp (q := 130) 67 rfl ?_
  refine s_if_eq (q := 133) (tgt := 147) 68 rfl rfl (fun hb => ?_) (fun hb => ?_)
  · have hb := lCmp_eq.mp hb
    have b1 := hb
    replace h := h.1 hb
    obtain ⟨c2, h⟩ := h
    refine n_iinc (q := 150) (lv' := [(4, (0, x4 + (-1))), (5, (1, s0)), (0, (2, x0)), (2, (0, x2))]) 76 3 rfl rfl c2 rfl ?_
    refine s_goto (tgt := 56) 77 rfl rfl ?_
    refine PW.pick [2, 3, 0] rfl ?_
    exact h
  · have hb := mt lCmp_eq.mpr hb
    have b1 := hb
    replace h := h.2 hb
    refine s_lconst (q := 134) (x := 0) 69 rfl ?_
    refine s_ldc2 (q := 137) (x := 99) 70 rfl kX6_168 ?_
    refine s_lload (q := 139) 71 0 rfl rfl ?_
    refine s_lmin (q := 142) 72 rfl kX6_170 ?_
    refine s_lmax (q := 145) 73 rfl kX6_174 ?_
    obtain ⟨c3, h⟩ := h
    refine n_l2i (q := 146) 74 rfl c3 ?_
    exact s_iret 75 rfl rfl h
theorem vX7_setWords_0 {l : Launch} {G : pG} {bg : Nat × Nat} {n : Nat} {K : Int → Nat × Nat} {F E : Int → Int → Int} {Q : Option pV → pM → Prop} (x0 x1 : Int) (h : (K x0).1 = 7 ∧ (K x1).1 = 0 ∧ (K (F x1 0)).1 = 20 ∧ ((0 : Int) ≤ 1 ∧ 1 < ((K (F x1 0)).2 : Int)) ∧ (0 : Int) ≤ F x0 1 ∧ (K (F x0 1)).1 = 20 ∧ ((0 : Int) ≤ 0 ∧ 0 < ((K (F x0 1)).2 : Int)) ∧ (∀ E1, E1 = pUp E (F x0 1) 0 (E (F x1 0) 1) → ((0 : Int) ≤ 1 ∧ 1 < ((K (F x0 1)).2 : Int)) ∧ (∀ E2, E2 = pUp E1 (F x0 1) 1 (F x0 3) → ((0 : Int) ≤ 2 ∧ 2 < ((K (F x0 1)).2 : Int)) ∧ (∀ E3, E3 = pUp E2 (F x0 1) 2 (F x0 4) → ((0 : Int) ≤ 2 ∧ 2 < ((K (F x1 0)).2 : Int)) ∧ ((0 : Int) ≤ 3 ∧ 3 < ((K (F x0 1)).2 : Int)) ∧ (∀ E4, E4 = pUp E3 (F x0 1) 3 (E3 (F x1 0) 2) → ((0 : Int) ≤ 0 ∧ 0 < ((K (F x1 0)).2 : Int)) ∧ ((0 : Int) ≤ 4 ∧ 4 < ((K (F x0 1)).2 : Int)) ∧ (∀ E5, E5 = pUp E4 (F x0 1) 4 (E4 (F x1 0) 0) → PW l G 1 mX7_setWords bg 52 [(0, (2, x0)), (1, (2, x1)), (2, (0, 0))] [] (n, K, F, E5) Q)))))) : PW l G 1 mX7_setWords bg 0 [(0, (2, x0)), (1, (2, x1))] [] (n, K, F, E) Q := by
  refine s_aload_n (q := 1) 0 0 rfl rfl ?_
  obtain ⟨c1, h⟩ := h
  refine n_getf (q := 4) (jj := 1) 1 7 1 rfl kX7_18 c1 ?_
  refine s_iconst (q := 5) 2 rfl ?_
  refine s_aload_n (q := 6) 3 1 rfl rfl ?_
  obtain ⟨c2, h⟩ := h
  refine n_callV (N := mX0_latestStamp) (as := []) (st := [(0, 0), (2, F x0 1)]) (q := 9) (d' := 0) 4 rfl uX0_latestStamp kX7_37 rfl c2 ?_
  show PW l G 0 mX0_latestStamp (0, 0) 0 [(0, (2, x1))] [] (n, K, F, E) _
  refine s_aload_n (q := 1) 0 0 rfl rfl ?_
  refine n_getf (q := 4) (jj := 0) 1 0 0 rfl kX0_11 c2 ?_
  refine s_iconst (q := 5) 2 rfl ?_
  obtain ⟨c3, h⟩ := h
  obtain ⟨c4, h⟩ := h
  refine n_iald (q := 6) 3 rfl c3 c4 ?_
  refine s_iret 4 rfl rfl ?_
  show PW l G 1 mX7_setWords bg 9 [(0, (2, x0)), (1, (2, x1))] [(0, E (F x1 0) 1), (0, 0), (2, F x0 1)] (n, K, F, E) Q
  obtain ⟨c5, h⟩ := h
  obtain ⟨c6, h⟩ := h
  obtain ⟨c7, h⟩ := h
  refine n_iast (q := 10) 5 rfl c5 c6 c7 ?_
  refine PW.nameE (fun E1 eE1 => ?_)
  replace h := h E1 eE1
  refine s_aload_n (q := 11) 6 0 rfl rfl ?_
  refine n_getf (q := 14) (jj := 1) 7 7 1 rfl kX7_18 c1 ?_
  refine s_iconst (q := 15) 8 rfl ?_
  refine s_aload_n (q := 16) 9 0 rfl rfl ?_
  refine n_getf (q := 19) (jj := 3) 10 7 3 rfl kX7_27 c1 ?_
  obtain ⟨c8, h⟩ := h
  refine n_iast (q := 20) 11 rfl c5 c6 c8 ?_
  refine PW.nameE (fun E2 eE2 => ?_)
  replace h := h E2 eE2
  refine s_aload_n (q := 21) 12 0 rfl rfl ?_
  refine n_getf (q := 24) (jj := 1) 13 7 1 rfl kX7_18 c1 ?_
  refine s_iconst (q := 25) 14 rfl ?_
  refine s_aload_n (q := 26) 15 0 rfl rfl ?_
  refine n_getf (q := 29) (jj := 4) 16 7 4 rfl kX7_31 c1 ?_
  obtain ⟨c9, h⟩ := h
  refine n_iast (q := 30) 17 rfl c5 c6 c9 ?_
  refine PW.nameE (fun E3 eE3 => ?_)
  replace h := h E3 eE3
  refine s_aload_n (q := 31) 18 0 rfl rfl ?_
  refine n_getf (q := 34) (jj := 1) 19 7 1 rfl kX7_18 c1 ?_
  refine s_iconst (q := 35) 20 rfl ?_
  refine s_aload_n (q := 36) 21 1 rfl rfl ?_
  refine n_callV (N := mX0_resultsEver) (as := []) (st := [(0, 3), (2, F x0 1)]) (q := 39) (d' := 0) 22 rfl uX0_resultsEver kX7_43 rfl c2 ?_
  show PW l G 0 mX0_resultsEver (0, 0) 0 [(0, (2, x1))] [] (n, K, F, E3) _
  refine s_aload_n (q := 1) 0 0 rfl rfl ?_
  refine n_getf (q := 4) (jj := 0) 1 0 0 rfl kX0_11 c2 ?_
  refine s_iconst (q := 5) 2 rfl ?_
  obtain ⟨c10, h⟩ := h
  refine n_iald (q := 6) 3 rfl c3 c10 ?_
  refine s_iret 4 rfl rfl ?_
  show PW l G 1 mX7_setWords bg 39 [(0, (2, x0)), (1, (2, x1))] [(0, E3 (F x1 0) 2), (0, 3), (2, F x0 1)] (n, K, F, E3) Q
  obtain ⟨c11, h⟩ := h
  refine n_iast (q := 40) 23 rfl c5 c6 c11 ?_
  refine PW.nameE (fun E4 eE4 => ?_)
  replace h := h E4 eE4
  refine s_aload_n (q := 41) 24 0 rfl rfl ?_
  refine n_getf (q := 44) (jj := 1) 25 7 1 rfl kX7_18 c1 ?_
  refine s_iconst (q := 45) 26 rfl ?_
  refine s_aload_n (q := 46) 27 1 rfl rfl ?_
  refine n_callV (N := mX0_operators) (as := []) (st := [(0, 4), (2, F x0 1)]) (q := 49) (d' := 0) 28 rfl uX0_operators kX7_46 rfl c2 ?_
  show PW l G 0 mX0_operators (0, 0) 0 [(0, (2, x1))] [] (n, K, F, E4) _
  refine s_aload_n (q := 1) 0 0 rfl rfl ?_
  refine n_getf (q := 4) (jj := 0) 1 0 0 rfl kX0_11 c2 ?_
  refine s_iconst (q := 5) 2 rfl ?_
  obtain ⟨c12, h⟩ := h
  refine n_iald (q := 6) 3 rfl c3 c12 ?_
  refine s_iret 4 rfl rfl ?_
  show PW l G 1 mX7_setWords bg 49 [(0, (2, x0)), (1, (2, x1))] [(0, E4 (F x1 0) 0), (0, 4), (2, F x0 1)] (n, K, F, E4) Q
  obtain ⟨c13, h⟩ := h
  refine n_iast (q := 50) 29 rfl c5 c6 c13 ?_
  refine PW.nameE (fun E5 eE5 => ?_)
  replace h := h E5 eE5
  refine s_iconst (q := 51) 30 rfl ?_
  refine s_istore_n (q := 52) (lv' := [(2, (0, 0)), (0, (2, x0)), (1, (2, x1))]) 31 rfl rfl ?_
  refine PW.pick [1, 2, 0] rfl ?_
  exact h
theorem vX7_setWords_52 {l : Launch} {G : pG} {bg : Nat × Nat} {n : Nat} {K : Int → Nat × Nat} {F E : Int → Int → Int} {Q : Option pV → pM → Prop} (x0 x1 x2 : Int) (h : ((3 ≤ x2 → PW l G 1 mX7_setWords bg 78 [(0, (2, x0)), (1, (2, x1)), (2, (0, 0))] [] (n, K, F, E) Q) ∧ (¬ (3 ≤ x2) → (K x0).1 = 7 ∧ (-2147483648 ≤ 5 + x2 ∧ 5 + x2 < 2147483648) ∧ (K x1).1 = 0 ∧ (-2147483648 ≤ 9 + x2 ∧ 9 + x2 < 2147483648) ∧ (K (F x1 0)).1 = 20 ∧ ((0 : Int) ≤ 9 + x2 ∧ 9 + x2 < ((K (F x1 0)).2 : Int)) ∧ (0 : Int) ≤ F x0 1 ∧ (K (F x0 1)).1 = 20 ∧ ((0 : Int) ≤ 5 + x2 ∧ 5 + x2 < ((K (F x0 1)).2 : Int)) ∧ (∀ E1, E1 = pUp E (F x0 1) (5 + x2) (E (F x1 0) (9 + x2)) → (-2147483648 ≤ x2 + 1 ∧ x2 + 1 < 2147483648) ∧ PW l G 1 mX7_setWords bg 52 [(0, (2, x0)), (1, (2, x1)), (2, (0, x2 + 1))] [] (n, K, F, E1) Q)))) : PW l G 1 mX7_setWords bg 52 [(0, (2, x0)), (1, (2, x1)), (2, (0, x2))] [] (n, K, F, E) Q := by
  refine s_iload_n (q := 53) 32 2 rfl rfl ?_
  refine s_iconst (q := 54) 33 rfl ?_
  refine s_icmp_ge (q := 57) (tgt := 76) 34 rfl rfl (fun hb => ?_) (fun hb => ?_)
  · skip
    have b1 := hb
    replace h := h.1 hb
    refine s_iconst (q := 77) 46 rfl ?_
    refine s_istore_n (q := 78) (lv' := [(2, (0, 0)), (0, (2, x0)), (1, (2, x1))]) 47 rfl rfl ?_
    refine PW.pick [1, 2, 0] rfl ?_
    exact h
  · skip
    have b1 := hb
    replace h := h.2 hb
    refine s_aload_n (q := 58) 35 0 rfl rfl ?_
    obtain ⟨c2, h⟩ := h
    refine n_getf (q := 61) (jj := 1) 36 7 1 rfl kX7_18 c2 ?_
    refine s_iconst (q := 62) 37 rfl ?_
    refine s_iload_n (q := 63) 38 2 rfl rfl ?_
    obtain ⟨c3, h⟩ := h
    refine n_iadd (q := 64) 39 rfl c3 ?_
    refine s_aload_n (q := 65) 40 1 rfl rfl ?_
    refine s_iload_n (q := 66) 41 2 rfl rfl ?_
    obtain ⟨c4, h⟩ := h
    refine n_callV (N := mX0_held) (as := [(0, x2)]) (st := [(0, 5 + x2), (2, F x0 1)]) (q := 69) (d' := 0) 42 rfl uX0_held kX7_49 rfl c4 ?_
    show PW l G 0 mX0_held (0, 0) 0 [(0, (2, x1)), (1, (0, x2))] [] (n, K, F, E) _
    refine s_aload_n (q := 1) 0 0 rfl rfl ?_
    refine n_getf (q := 4) (jj := 0) 1 0 0 rfl kX0_11 c4 ?_
    refine s_bipush (q := 6) 2 rfl ?_
    refine s_iload_n (q := 7) 3 1 rfl rfl ?_
    obtain ⟨c5, h⟩ := h
    refine n_iadd (q := 8) 4 rfl c5 ?_
    obtain ⟨c6, h⟩ := h
    obtain ⟨c7, h⟩ := h
    refine n_iald (q := 9) 5 rfl c6 c7 ?_
    refine s_iret 6 rfl rfl ?_
    show PW l G 1 mX7_setWords bg 69 [(0, (2, x0)), (1, (2, x1)), (2, (0, x2))] [(0, E (F x1 0) (9 + x2)), (0, 5 + x2), (2, F x0 1)] (n, K, F, E) Q
    obtain ⟨c8, h⟩ := h
    obtain ⟨c9, h⟩ := h
    obtain ⟨c10, h⟩ := h
    refine n_iast (q := 70) 43 rfl c8 c9 c10 ?_
    refine PW.nameE (fun E1 eE1 => ?_)
    replace h := h E1 eE1
    obtain ⟨c11, h⟩ := h
    refine n_iinc (q := 73) (lv' := [(2, (0, x2 + 1)), (0, (2, x0)), (1, (2, x1))]) 44 2 rfl rfl c11 rfl ?_
    refine s_goto (tgt := 52) 45 rfl rfl ?_
    refine PW.pick [1, 2, 0] rfl ?_
    exact h
theorem vX7_setWords_78 {l : Launch} {G : pG} {bg : Nat × Nat} {n : Nat} {K : Int → Nat × Nat} {F E : Int → Int → Int} {Q : Option pV → pM → Prop} (x0 x1 x2 : Int) (h : ((4 ≤ x2 → Q none (n, K, F, E)) ∧ (¬ (4 ≤ x2) → (K x0).1 = 7 ∧ (-2147483648 ≤ 8 + x2 ∧ 8 + x2 < 2147483648) ∧ (K x1).1 = 0 ∧ (K (F x1 0)).1 = 20 ∧ ((0 : Int) ≤ 0 ∧ 0 < ((K (F x1 0)).2 : Int)) ∧ ((¬ (0 ≤ x2 ∧ x2 < E (F x1 0) 0) → (0 : Int) ≤ F x0 1 ∧ (K (F x0 1)).1 = 20 ∧ ((0 : Int) ≤ 8 + x2 ∧ 8 + x2 < ((K (F x0 1)).2 : Int)) ∧ (∀ E1, E1 = pUp E (F x0 1) (8 + x2) (-1000) → (-2147483648 ≤ x2 + 1 ∧ x2 + 1 < 2147483648) ∧ PW l G 1 mX7_setWords bg 78 [(0, (2, x0)), (1, (2, x1)), (2, (0, x2 + 1))] [] (n, K, F, E1) Q)) ∧ (0 ≤ x2 ∧ x2 < E (F x1 0) 0 → (-2147483648 ≤ x2 * 6 ∧ x2 * 6 < 2147483648) ∧ (-2147483648 ≤ 12 + (x2 * 6) ∧ 12 + (x2 * 6) < 2147483648) ∧ (-2147483648 ≤ (12 + (x2 * 6)) + 5 ∧ (12 + (x2 * 6)) + 5 < 2147483648) ∧ ((0 : Int) ≤ (12 + (x2 * 6)) + 5 ∧ (12 + (x2 * 6)) + 5 < ((K (F x1 0)).2 : Int)) ∧ (0 : Int) ≤ F x0 1 ∧ (K (F x0 1)).1 = 20 ∧ ((0 : Int) ≤ 8 + x2 ∧ 8 + x2 < ((K (F x0 1)).2 : Int)) ∧ (∀ E2, E2 = pUp E (F x0 1) (8 + x2) (E (F x1 0) ((12 + (x2 * 6)) + 5)) → (-2147483648 ≤ x2 + 1 ∧ x2 + 1 < 2147483648) ∧ PW l G 1 mX7_setWords bg 78 [(0, (2, x0)), (1, (2, x1)), (2, (0, x2 + 1))] [] (n, K, F, E2) Q)))))) : PW l G 1 mX7_setWords bg 78 [(0, (2, x0)), (1, (2, x1)), (2, (0, x2))] [] (n, K, F, E) Q := by
  refine s_iload_n (q := 79) 48 2 rfl rfl ?_
  refine s_iconst (q := 80) 49 rfl ?_
  refine s_icmp_ge (q := 83) (tgt := 118) 50 rfl rfl (fun hb => ?_) (fun hb => ?_)
  · skip
    have b1 := hb
    replace h := h.1 hb
    exact s_vret 69 rfl rfl h
  · skip
    have b1 := hb
    replace h := h.2 hb
    refine s_aload_n (q := 84) 51 0 rfl rfl ?_
    obtain ⟨c2, h⟩ := h
    refine n_getf (q := 87) (jj := 1) 52 7 1 rfl kX7_18 c2 ?_
    refine s_bipush (q := 89) 53 rfl ?_
    refine s_iload_n (q := 90) 54 2 rfl rfl ?_
    obtain ⟨c3, h⟩ := h
    refine n_iadd (q := 91) 55 rfl c3 ?_
    refine s_aload_n (q := 92) 56 1 rfl rfl ?_
    refine s_iload_n (q := 93) 57 2 rfl rfl ?_
    obtain ⟨c4, h⟩ := h
    obtain ⟨c5, h⟩ := h
    obtain ⟨c6, h⟩ := h
    refine n_callV (N := mX0_hasOperator) (as := [(0, x2)]) (st := [(0, 8 + x2), (2, F x0 1)]) (q := 96) (d' := 0) 58 rfl uX0_hasOperator kX7_53 rfl c4 (pX0_hasOperator c4 c5 c6 ?_)
    show PW l G 1 mX7_setWords bg 96 [(0, (2, x0)), (1, (2, x1)), (2, (0, x2))] [(0, bI (0 ≤ x2 ∧ x2 < E (F x1 0) 0)), (0, 8 + x2), (2, F x0 1)] (n, K, F, E) Q
    refine s_if_eq (q := 99) (tgt := 108) 59 rfl rfl (fun hb => ?_) (fun hb => ?_)
    · have hb := bI_f hb
      have b7 := hb
      replace h := h.1 hb
      refine s_sipush (q := 111) 65 rfl ?_
      obtain ⟨c8, h⟩ := h
      obtain ⟨c9, h⟩ := h
      obtain ⟨c10, h⟩ := h
      refine n_iast (q := 112) 66 rfl c8 c9 c10 ?_
      refine PW.nameE (fun E1 eE1 => ?_)
      replace h := h E1 eE1
      obtain ⟨c11, h⟩ := h
      refine n_iinc (q := 115) (lv' := [(2, (0, x2 + 1)), (0, (2, x0)), (1, (2, x1))]) 67 2 rfl rfl c11 rfl ?_
      refine s_goto (tgt := 78) 68 rfl rfl ?_
      refine PW.pick [1, 2, 0] rfl ?_
      exact h
    · have hb := bI_t hb
      have b7 := hb
      replace h := h.2 hb
      refine s_aload_n (q := 100) 60 1 rfl rfl ?_
      refine s_iload_n (q := 101) 61 2 rfl rfl ?_
      refine s_iconst (q := 102) 62 rfl ?_
      refine n_callV (N := mX0_part) (as := [(0, x2), (0, 5)]) (st := [(0, 8 + x2), (2, F x0 1)]) (q := 105) (d' := 0) 63 rfl uX0_part kX7_57 rfl c4 ?_
      show PW l G 0 mX0_part (0, 0) 0 [(0, (2, x1)), (1, (0, x2)), (2, (0, 5))] [] (n, K, F, E) _
      refine s_aload_n (q := 1) 0 0 rfl rfl ?_
      refine n_getf (q := 4) (jj := 0) 1 0 0 rfl kX0_11 c4 ?_
      refine s_bipush (q := 6) 2 rfl ?_
      refine s_iload_n (q := 7) 3 1 rfl rfl ?_
      refine s_bipush (q := 9) 4 rfl ?_
      obtain ⟨c12, h⟩ := h
      refine n_imul (q := 10) 5 rfl c12 ?_
      obtain ⟨c13, h⟩ := h
      refine n_iadd (q := 11) 6 rfl c13 ?_
      refine s_iload_n (q := 12) 7 2 rfl rfl ?_
      obtain ⟨c14, h⟩ := h
      refine n_iadd (q := 13) 8 rfl c14 ?_
      obtain ⟨c15, h⟩ := h
      refine n_iald (q := 14) 9 rfl c5 c15 ?_
      refine s_iret 10 rfl rfl ?_
      show PW l G 1 mX7_setWords bg 105 [(0, (2, x0)), (1, (2, x1)), (2, (0, x2))] [(0, E (F x1 0) ((12 + (x2 * 6)) + 5)), (0, 8 + x2), (2, F x0 1)] (n, K, F, E) Q
      refine s_goto (tgt := 111) 64 rfl rfl ?_
      obtain ⟨c16, h⟩ := h
      obtain ⟨c17, h⟩ := h
      obtain ⟨c18, h⟩ := h
      refine n_iast (q := 112) 66 rfl c16 c17 c18 ?_
      refine PW.nameE (fun E2 eE2 => ?_)
      replace h := h E2 eE2
      obtain ⟨c19, h⟩ := h
      refine n_iinc (q := 115) (lv' := [(2, (0, x2 + 1)), (0, (2, x0)), (1, (2, x1))]) 67 2 rfl rfl c19 rfl ?_
      refine s_goto (tgt := 78) 68 rfl rfl ?_
      refine PW.pick [1, 2, 0] rfl ?_
      exact h
theorem vX8_put_0 {l : Launch} {G : pG} {bg : Nat × Nat} {n : Nat} {K : Int → Nat × Nat} {F E : Int → Int → Int} {Q : Option pV → pM → Prop} (x0 x1 : Int) (h : PW l G 0 mX8_put bg 3 [(0, (2, x0)), (1, (0, x1)), (2, (0, 24))] [] (n, K, F, E) Q) : PW l G 0 mX8_put bg 0 [(0, (2, x0)), (1, (0, x1))] [] (n, K, F, E) Q := by
  refine s_bipush (q := 2) 0 rfl ?_
  refine s_istore_n (q := 3) (lv' := [(2, (0, 24)), (0, (2, x0)), (1, (0, x1))]) 1 rfl rfl ?_
  refine PW.pick [1, 2, 0] rfl ?_
  exact h
theorem vX8_put_3 {l : Launch} {G : pG} {bg : Nat × Nat} {n : Nat} {K : Int → Nat × Nat} {F E : Int → Int → Int} {Q : Option pV → pM → Prop} (x0 x1 x2 : Int) (h : ((x2 < 0 → Q none (n, K, F, E)) ∧ (¬ (x2 < 0) → (K x0).1 = 8 ∧ (0 : Int) ≤ F x0 0 ∧ (K (F x0 0)).1 = 22 ∧ ((0 : Int) ≤ F x0 1 ∧ F x0 1 < ((K (F x0 0)).2 : Int)) ∧ (∀ E1, E1 = pUp E (F x0 0) (F x0 1) (w8 (w8 (bShr x1 x2))) → (-2147483648 ≤ (F x0 1) + 1 ∧ (F x0 1) + 1 < 2147483648) ∧ (∀ F2, F2 = pUp F x0 1 ((F x0 1) + 1) → (-2147483648 ≤ x2 + (-8) ∧ x2 + (-8) < 2147483648) ∧ PW l G 0 mX8_put bg 3 [(0, (2, x0)), (1, (0, x1)), (2, (0, x2 + (-8)))] [] (n, K, F2, E1) Q))))) : PW l G 0 mX8_put bg 3 [(0, (2, x0)), (1, (0, x1)), (2, (0, x2))] [] (n, K, F, E) Q := by
  refine s_iload_n (q := 4) 2 2 rfl rfl ?_
  refine s_if_lt (q := 7) (tgt := 36) 3 rfl rfl (fun hb => ?_) (fun hb => ?_)
  · skip
    have b1 := hb
    replace h := h.1 hb
    exact s_vret 21 rfl rfl h
  · skip
    have b1 := hb
    replace h := h.2 hb
    refine s_aload_n (q := 8) 4 0 rfl rfl ?_
    obtain ⟨c2, h⟩ := h
    refine n_getf (q := 11) (jj := 0) 5 8 0 rfl kX8_9 c2 ?_
    refine s_aload_n (q := 12) 6 0 rfl rfl ?_
    refine n_getf (q := 15) (jj := 1) 7 8 1 rfl kX8_15 c2 ?_
    refine s_iload_n (q := 16) 8 1 rfl rfl ?_
    refine s_iload_n (q := 17) 9 2 rfl rfl ?_
    refine s_ishr (q := 18) 10 rfl ?_
    refine s_i2b (q := 19) 11 rfl ?_
    obtain ⟨c3, h⟩ := h
    obtain ⟨c4, h⟩ := h
    obtain ⟨c5, h⟩ := h
    refine n_bast (q := 20) 12 rfl c3 c4 c5 ?_
    refine PW.nameE (fun E1 eE1 => ?_)
    replace h := h E1 eE1
    refine s_aload_n (q := 21) 13 0 rfl rfl ?_
    refine s_dup (q := 22) 14 rfl ?_
    refine n_getf (q := 25) (jj := 1) 15 8 1 rfl kX8_15 c2 ?_
    refine s_iconst (q := 26) 16 rfl ?_
    obtain ⟨c6, h⟩ := h
    refine n_iadd (q := 27) 17 rfl c6 ?_
    refine n_putf (q := 30) (jj := 1) 18 8 1 rfl kX8_15 c2 (Or.inl rfl) ?_
    refine PW.nameF (fun F2 eF2 => ?_)
    replace h := h F2 eF2
    obtain ⟨c7, h⟩ := h
    refine n_iinc (q := 33) (lv' := [(2, (0, x2 + (-8))), (0, (2, x0)), (1, (0, x1))]) 19 2 rfl rfl c7 rfl ?_
    refine s_goto (tgt := 3) 20 rfl rfl ?_
    refine PW.pick [1, 2, 0] rfl ?_
    exact h
theorem vX9_beginClause_0 {l : Launch} {G : pG} {bg : Nat × Nat} {n : Nat} {K : Int → Nat × Nat} {F E : Int → Int → Int} {Q : Option pV → pM → Prop} (x0 x1 : Int) (h : (K x0).1 = 9 ∧ (-2147483648 ≤ (F x0 2) * 6 ∧ (F x0 2) * 6 < 2147483648) ∧ PW l G 0 mX9_beginClause bg 10 [(0, (2, x0)), (1, (0, x1)), (2, (0, (F x0 2) * 6)), (3, (0, 0))] [] (n, K, F, E) Q) : PW l G 0 mX9_beginClause bg 0 [(0, (2, x0)), (1, (0, x1))] [] (n, K, F, E) Q := by
  refine s_aload_n (q := 1) 0 0 rfl rfl ?_
  obtain ⟨c1, h⟩ := h
  refine n_getf (q := 4) (jj := 2) 1 9 2 rfl kX9_18 c1 ?_
  refine s_bipush (q := 6) 2 rfl ?_
  obtain ⟨c2, h⟩ := h
  refine n_imul (q := 7) 3 rfl c2 ?_
  refine s_istore_n (q := 8) (lv' := [(2, (0, (F x0 2) * 6)), (0, (2, x0)), (1, (0, x1))]) 4 rfl rfl ?_
  refine s_iconst (q := 9) 5 rfl ?_
  refine s_istore_n (q := 10) (lv' := [(3, (0, 0)), (2, (0, (F x0 2) * 6)), (0, (2, x0)), (1, (0, x1))]) 6 rfl rfl ?_
  refine PW.pick [2, 3, 1, 0] rfl ?_
  exact h
theorem vX9_beginClause_10 {l : Launch} {G : pG} {bg : Nat × Nat} {n : Nat} {K : Int → Nat × Nat} {F E : Int → Int → Int} {Q : Option pV → pM → Prop} (x0 x1 x2 x3 : Int) (h : ((6 ≤ x3 → (K x0).1 = 9 ∧ (-2147483648 ≤ x2 + 0 ∧ x2 + 0 < 2147483648) ∧ (0 : Int) ≤ F x0 0 ∧ (K (F x0 0)).1 = 20 ∧ ((0 : Int) ≤ x2 + 0 ∧ x2 + 0 < ((K (F x0 0)).2 : Int)) ∧ (∀ E1, E1 = pUp E (F x0 0) (x2 + 0) x1 → (-2147483648 ≤ x2 + 1 ∧ x2 + 1 < 2147483648) ∧ ((0 : Int) ≤ x2 + 1 ∧ x2 + 1 < ((K (F x0 0)).2 : Int)) ∧ (∀ E2, E2 = pUp E1 (F x0 0) (x2 + 1) 1 → (-2147483648 ≤ (F x0 2) + 1 ∧ (F x0 2) + 1 < 2147483648) ∧ (∀ F3, F3 = pUp F x0 2 ((F x0 2) + 1) → Q none (n, K, F3, E2))))) ∧ (¬ (6 ≤ x3) → (K x0).1 = 9 ∧ (-2147483648 ≤ x2 + x3 ∧ x2 + x3 < 2147483648) ∧ (0 : Int) ≤ F x0 0 ∧ (K (F x0 0)).1 = 20 ∧ ((0 : Int) ≤ x2 + x3 ∧ x2 + x3 < ((K (F x0 0)).2 : Int)) ∧ (∀ E4, E4 = pUp E (F x0 0) (x2 + x3) (-1) → (-2147483648 ≤ x3 + 1 ∧ x3 + 1 < 2147483648) ∧ PW l G 0 mX9_beginClause bg 10 [(0, (2, x0)), (1, (0, x1)), (2, (0, x2)), (3, (0, x3 + 1))] [] (n, K, F, E4) Q)))) : PW l G 0 mX9_beginClause bg 10 [(0, (2, x0)), (1, (0, x1)), (2, (0, x2)), (3, (0, x3))] [] (n, K, F, E) Q := by
  refine s_iload_n (q := 11) 7 3 rfl rfl ?_
  refine s_bipush (q := 13) 8 rfl ?_
  refine s_icmp_ge (q := 16) (tgt := 31) 9 rfl rfl (fun hb => ?_) (fun hb => ?_)
  · skip
    have b1 := hb
    replace h := h.1 hb
    refine s_aload_n (q := 32) 19 0 rfl rfl ?_
    obtain ⟨c2, h⟩ := h
    refine n_getf (q := 35) (jj := 0) 20 9 0 rfl kX9_11 c2 ?_
    refine s_iload_n (q := 36) 21 2 rfl rfl ?_
    refine s_iconst (q := 37) 22 rfl ?_
    obtain ⟨c3, h⟩ := h
    refine n_iadd (q := 38) 23 rfl c3 ?_
    refine s_iload_n (q := 39) 24 1 rfl rfl ?_
    obtain ⟨c4, h⟩ := h
    obtain ⟨c5, h⟩ := h
    obtain ⟨c6, h⟩ := h
    refine n_iast (q := 40) 25 rfl c4 c5 c6 ?_
    refine PW.nameE (fun E1 eE1 => ?_)
    replace h := h E1 eE1
    refine s_aload_n (q := 41) 26 0 rfl rfl ?_
    refine n_getf (q := 44) (jj := 0) 27 9 0 rfl kX9_11 c2 ?_
    refine s_iload_n (q := 45) 28 2 rfl rfl ?_
    refine s_iconst (q := 46) 29 rfl ?_
    obtain ⟨c7, h⟩ := h
    refine n_iadd (q := 47) 30 rfl c7 ?_
    refine s_iconst (q := 48) 31 rfl ?_
    obtain ⟨c8, h⟩ := h
    refine n_iast (q := 49) 32 rfl c4 c5 c8 ?_
    refine PW.nameE (fun E2 eE2 => ?_)
    replace h := h E2 eE2
    refine s_aload_n (q := 50) 33 0 rfl rfl ?_
    refine s_dup (q := 51) 34 rfl ?_
    refine n_getf (q := 54) (jj := 2) 35 9 2 rfl kX9_18 c2 ?_
    refine s_iconst (q := 55) 36 rfl ?_
    obtain ⟨c9, h⟩ := h
    refine n_iadd (q := 56) 37 rfl c9 ?_
    refine n_putf (q := 59) (jj := 2) 38 9 2 rfl kX9_18 c2 (Or.inl rfl) ?_
    refine PW.nameF (fun F3 eF3 => ?_)
    replace h := h F3 eF3
    exact s_vret 39 rfl rfl h
  · skip
    have b1 := hb
    replace h := h.2 hb
    refine s_aload_n (q := 17) 10 0 rfl rfl ?_
    obtain ⟨c10, h⟩ := h
    refine n_getf (q := 20) (jj := 0) 11 9 0 rfl kX9_11 c10 ?_
    refine s_iload_n (q := 21) 12 2 rfl rfl ?_
    refine s_iload_n (q := 22) 13 3 rfl rfl ?_
    obtain ⟨c11, h⟩ := h
    refine n_iadd (q := 23) 14 rfl c11 ?_
    refine s_iconst (q := 24) 15 rfl ?_
    obtain ⟨c12, h⟩ := h
    obtain ⟨c13, h⟩ := h
    obtain ⟨c14, h⟩ := h
    refine n_iast (q := 25) 16 rfl c12 c13 c14 ?_
    refine PW.nameE (fun E4 eE4 => ?_)
    replace h := h E4 eE4
    obtain ⟨c15, h⟩ := h
    refine n_iinc (q := 28) (lv' := [(3, (0, x3 + 1)), (0, (2, x0)), (1, (0, x1)), (2, (0, x2))]) 17 3 rfl rfl c15 rfl ?_
    refine s_goto (tgt := 10) 18 rfl rfl ?_
    refine PW.pick [1, 2, 3, 0] rfl ?_
    exact h
theorem vX9_emit_0 {l : Launch} {G : pG} {bg : Nat × Nat} {n : Nat} {K : Int → Nat × Nat} {F E : Int → Int → Int} {Q : Option pV → pM → Prop} (x0 x1 x2 : Int) (h : (K x0).1 = 9 ∧ (-2147483648 ≤ (F x0 3) + 1 ∧ (F x0 3) + 1 < 2147483648) ∧ (K (F x0 1)).1 = 20 ∧ ((((K (F x0 1)).2 : Int) ≤ (F x0 3) + 1 → Q (some (0, F x0 3)) (n, K, F, E)) ∧ (¬ (((K (F x0 1)).2 : Int) ≤ (F x0 3) + 1) → (0 : Int) ≤ F x0 1 ∧ ((0 : Int) ≤ F x0 3 ∧ F x0 3 < ((K (F x0 1)).2 : Int)) ∧ (∀ E1, E1 = pUp E (F x0 1) (F x0 3) x1 → ((0 : Int) ≤ (F x0 3) + 1 ∧ (F x0 3) + 1 < ((K (F x0 1)).2 : Int)) ∧ (∀ E2, E2 = pUp E1 (F x0 1) ((F x0 3) + 1) x2 → (-2147483648 ≤ (F x0 3) + 2 ∧ (F x0 3) + 2 < 2147483648) ∧ (∀ F3, F3 = pUp F x0 3 ((F x0 3) + 2) → Q (some (0, F x0 3)) (n, K, F3, E2))))))) : PW l G 0 mX9_emit bg 0 [(0, (2, x0)), (1, (0, x1)), (2, (0, x2))] [] (n, K, F, E) Q := by
  refine s_aload_n (q := 1) 0 0 rfl rfl ?_
  obtain ⟨c1, h⟩ := h
  refine n_getf (q := 4) (jj := 3) 1 9 3 rfl kX9_22 c1 ?_
  refine s_istore_n (q := 5) (lv' := [(3, (0, F x0 3)), (0, (2, x0)), (1, (0, x1)), (2, (0, x2))]) 2 rfl rfl ?_
  refine s_iload_n (q := 6) 3 0 rfl rfl ?_
  refine s_iconst (q := 7) 4 rfl ?_
  obtain ⟨c2, h⟩ := h
  refine n_iadd (q := 8) 5 rfl c2 ?_
  refine s_aload_n (q := 9) 6 1 rfl rfl ?_
  refine n_getf (q := 12) (jj := 1) 7 9 1 rfl kX9_15 c1 ?_
  obtain ⟨c3, h⟩ := h
  refine n_alen (q := 13) 8 0 rfl c3 ?_
  refine s_icmp_ge (q := 16) (tgt := 39) 9 rfl rfl (fun hb => ?_) (fun hb => ?_)
  · skip
    have b4 := hb
    replace h := h.1 hb
    refine s_iload_n (q := 40) 27 0 rfl rfl ?_
    exact s_iret 28 rfl rfl h
  · skip
    have b4 := hb
    replace h := h.2 hb
    refine s_aload_n (q := 17) 10 1 rfl rfl ?_
    refine n_getf (q := 20) (jj := 1) 11 9 1 rfl kX9_15 c1 ?_
    refine s_iload_n (q := 21) 12 0 rfl rfl ?_
    refine s_iload_n (q := 22) 13 2 rfl rfl ?_
    obtain ⟨c5, h⟩ := h
    obtain ⟨c6, h⟩ := h
    refine n_iast (q := 23) 14 rfl c5 c3 c6 ?_
    refine PW.nameE (fun E1 eE1 => ?_)
    replace h := h E1 eE1
    refine s_aload_n (q := 24) 15 1 rfl rfl ?_
    refine n_getf (q := 27) (jj := 1) 16 9 1 rfl kX9_15 c1 ?_
    refine s_iload_n (q := 28) 17 0 rfl rfl ?_
    refine s_iconst (q := 29) 18 rfl ?_
    refine n_iadd (q := 30) 19 rfl c2 ?_
    refine s_iload_n (q := 31) 20 3 rfl rfl ?_
    obtain ⟨c7, h⟩ := h
    refine n_iast (q := 32) 21 rfl c5 c3 c7 ?_
    refine PW.nameE (fun E2 eE2 => ?_)
    replace h := h E2 eE2
    refine s_aload_n (q := 33) 22 1 rfl rfl ?_
    refine s_iload_n (q := 34) 23 0 rfl rfl ?_
    refine s_iconst (q := 35) 24 rfl ?_
    obtain ⟨c8, h⟩ := h
    refine n_iadd (q := 36) 25 rfl c8 ?_
    refine n_putf (q := 39) (jj := 3) 26 9 3 rfl kX9_22 c1 (Or.inl rfl) ?_
    refine PW.nameF (fun F3 eF3 => ?_)
    replace h := h F3 eF3
    refine s_iload_n (q := 40) 27 0 rfl rfl ?_
    exact s_iret 28 rfl rfl h
theorem vX9_landLeap_0 {l : Launch} {G : pG} {bg : Nat × Nat} {n : Nat} {K : Int → Nat × Nat} {F E : Int → Int → Int} {Q : Option pV → pM → Prop} (x0 x1 : Int) (h : (-2147483648 ≤ x1 + 1 ∧ x1 + 1 < 2147483648) ∧ (K x0).1 = 9 ∧ (K (F x0 1)).1 = 20 ∧ ((((K (F x0 1)).2 : Int) ≤ x1 + 1 → Q none (n, K, F, E)) ∧ (¬ (((K (F x0 1)).2 : Int) ≤ x1 + 1) → (0 : Int) ≤ F x0 1 ∧ ((0 : Int) ≤ x1 + 1 ∧ x1 + 1 < ((K (F x0 1)).2 : Int)) ∧ (∀ E1, E1 = pUp E (F x0 1) (x1 + 1) (F x0 3) → Q none (n, K, F, E1))))) : PW l G 0 mX9_landLeap bg 0 [(0, (2, x0)), (1, (0, x1))] [] (n, K, F, E) Q := by
  refine s_iload_n (q := 1) 0 1 rfl rfl ?_
  refine s_iconst (q := 2) 1 rfl ?_
  obtain ⟨c1, h⟩ := h
  refine n_iadd (q := 3) 2 rfl c1 ?_
  refine s_aload_n (q := 4) 3 0 rfl rfl ?_
  obtain ⟨c2, h⟩ := h
  refine n_getf (q := 7) (jj := 1) 4 9 1 rfl kX9_15 c2 ?_
  obtain ⟨c3, h⟩ := h
  refine n_alen (q := 8) 5 0 rfl c3 ?_
  refine s_icmp_ge (q := 11) (tgt := 23) 6 rfl rfl (fun hb => ?_) (fun hb => ?_)
  · skip
    have b4 := hb
    replace h := h.1 hb
    exact s_vret 15 rfl rfl h
  · skip
    have b4 := hb
    replace h := h.2 hb
    refine s_aload_n (q := 12) 7 0 rfl rfl ?_
    refine n_getf (q := 15) (jj := 1) 8 9 1 rfl kX9_15 c2 ?_
    refine s_iload_n (q := 16) 9 1 rfl rfl ?_
    refine s_iconst (q := 17) 10 rfl ?_
    refine n_iadd (q := 18) 11 rfl c1 ?_
    refine s_aload_n (q := 19) 12 0 rfl rfl ?_
    refine n_getf (q := 22) (jj := 3) 13 9 3 rfl kX9_22 c2 ?_
    obtain ⟨c5, h⟩ := h
    obtain ⟨c6, h⟩ := h
    refine n_iast (q := 23) 14 rfl c5 c3 c6 ?_
    refine PW.nameE (fun E1 eE1 => ?_)
    replace h := h E1 eE1
    exact s_vret 15 rfl rfl h
theorem vX10_readAll_0 {l : Launch} {G : pG} {bg : Nat × Nat} {n : Nat} {K : Int → Nat × Nat} {F E : Int → Int → Int} {Q : Option pV → pM → Prop} (x0 : Int) (h : PW l G 8 mX10_readAll bg 6 [(0, (2, x0)), (1, (0, 0)), (2, (0, 0)), (3, (0, 0))] [] (n, K, F, E) Q) : PW l G 8 mX10_readAll bg 0 [(0, (2, x0))] [] (n, K, F, E) Q := by
  refine s_iconst (q := 1) 0 rfl ?_
  refine s_istore_n (q := 2) (lv' := [(1, (0, 0)), (0, (2, x0))]) 1 rfl rfl ?_
  refine s_iconst (q := 3) 2 rfl ?_
  refine s_istore_n (q := 4) (lv' := [(2, (0, 0)), (1, (0, 0)), (0, (2, x0))]) 3 rfl rfl ?_
  refine s_iconst (q := 5) 4 rfl ?_
  refine s_istore_n (q := 6) (lv' := [(3, (0, 0)), (2, (0, 0)), (1, (0, 0)), (0, (2, x0))]) 5 rfl rfl ?_
  refine PW.pick [3, 2, 1, 0] rfl ?_
  exact h
theorem vX10_readAll_6 {l : Launch} {G : pG} {bg : Nat × Nat} {n : Nat} {K : Int → Nat × Nat} {F E : Int → Int → Int} {Q : Option pV → pM → Prop} (x0 x1 x2 x3 : Int) (h : ((400 ≤ x3 → (K x0).1 = 10 ∧ (0 : Int) ≤ F x0 1 ∧ (K (F x0 1)).1 = 20 ∧ ((0 : Int) ≤ x1 ∧ x1 < ((K (F x0 1)).2 : Int)) ∧ (∀ E1, E1 = pUp E (F x0 1) x1 256 → (K (F x0 0)).1 = 8 ∧ (0 : Int) ≤ F x0 2 ∧ (K (F x0 2)).1 = 20 ∧ ((0 : Int) ≤ x1 ∧ x1 < ((K (F x0 2)).2 : Int)) ∧ (∀ E2, E2 = pUp E1 (F x0 2) x1 (F (F x0 0) 1) → Q none (n, K, F, E2)))) ∧ (¬ (400 ≤ x3) → (K x0).1 = 10 ∧ (K (F x0 0)).1 = 8 ∧ ((F (F x0 0) 1 ≤ x2 → (0 : Int) ≤ F x0 1 ∧ (K (F x0 1)).1 = 20 ∧ ((0 : Int) ≤ x1 ∧ x1 < ((K (F x0 1)).2 : Int)) ∧ (∀ E3, E3 = pUp E (F x0 1) x1 256 → (0 : Int) ≤ F x0 2 ∧ (K (F x0 2)).1 = 20 ∧ ((0 : Int) ≤ x1 ∧ x1 < ((K (F x0 2)).2 : Int)) ∧ (∀ E4, E4 = pUp E3 (F x0 2) x1 (F (F x0 0) 1) → Q none (n, K, F, E4)))) ∧ (¬ (F (F x0 0) 1 ≤ x2) → (0 : Int) ≤ F (F x0 0) 0 ∧ (K (F (F x0 0) 0)).1 = 22 ∧ ((0 : Int) ≤ x2 ∧ x2 < ((K (F (F x0 0) 0)).2 : Int)) ∧ ((¬ (bAnd (E (F (F x0 0) 0) x2) 255) = 32 → (0 : Int) ≤ F x0 2 ∧ (K (F x0 2)).1 = 20 ∧ ((0 : Int) ≤ x1 ∧ x1 < ((K (F x0 2)).2 : Int)) ∧ (∀ E5, E5 = pUp E (F x0 2) x1 x2 → PC l G 7 mX10_readOne (0, 0) [(2, x0), (0, x1), (0, x2)] (n, K, F, E5) (fun r μ => PW l G 8 mX10_readAll bg 56 [(0, (2, x0)), (1, (0, x1)), (3, (0, x3))] (r.toList ++ []) μ Q))) ∧ ((bAnd (E (F (F x0 0) 0) x2) 255) = 32 → (-2147483648 ≤ x2 + 1 ∧ x2 + 1 < 2147483648) ∧ (-2147483648 ≤ x3 + 1 ∧ x3 + 1 < 2147483648) ∧ PW l G 8 mX10_readAll bg 6 [(0, (2, x0)), (1, (0, x1)), (2, (0, x2 + 1)), (3, (0, x3 + 1))] [] (n, K, F, E) Q))))))) : PW l G 8 mX10_readAll bg 6 [(0, (2, x0)), (1, (0, x1)), (2, (0, x2)), (3, (0, x3))] [] (n, K, F, E) Q := by
  refine s_iload_n (q := 7) 6 3 rfl rfl ?_
  refine s_sipush (q := 10) 7 rfl ?_
  refine s_icmp_ge (q := 13) (tgt := 66) 8 rfl rfl (fun hb => ?_) (fun hb => ?_)
  · skip
    have b1 := hb
    replace h := h.1 hb
    refine s_aload_n (q := 67) 35 0 rfl rfl ?_
    obtain ⟨c2, h⟩ := h
    refine n_getf (q := 70) (jj := 1) 36 10 1 rfl kX10_18 c2 ?_
    refine s_iload_n (q := 71) 37 1 rfl rfl ?_
    refine s_sipush (q := 74) 38 rfl ?_
    obtain ⟨c3, h⟩ := h
    obtain ⟨c4, h⟩ := h
    obtain ⟨c5, h⟩ := h
    refine n_iast (q := 75) 39 rfl c3 c4 c5 ?_
    refine PW.nameE (fun E1 eE1 => ?_)
    replace h := h E1 eE1
    refine s_aload_n (q := 76) 40 0 rfl rfl ?_
    refine n_getf (q := 79) (jj := 2) 41 10 2 rfl kX10_22 c2 ?_
    refine s_iload_n (q := 80) 42 1 rfl rfl ?_
    refine s_aload_n (q := 81) 43 0 rfl rfl ?_
    refine n_getf (q := 84) (jj := 0) 44 10 0 rfl kX10_12 c2 ?_
    obtain ⟨c6, h⟩ := h
    refine n_getf (q := 87) (jj := 1) 45 8 1 rfl kX10_28 c6 ?_
    obtain ⟨c7, h⟩ := h
    obtain ⟨c8, h⟩ := h
    obtain ⟨c9, h⟩ := h
    refine n_iast (q := 88) 46 rfl c7 c8 c9 ?_
    refine PW.nameE (fun E2 eE2 => ?_)
    replace h := h E2 eE2
    exact s_vret 47 rfl rfl h
  · skip
    have b1 := hb
    replace h := h.2 hb
    refine s_iload_n (q := 14) 9 2 rfl rfl ?_
    refine s_aload_n (q := 15) 10 0 rfl rfl ?_
    obtain ⟨c10, h⟩ := h
    refine n_getf (q := 18) (jj := 0) 11 10 0 rfl kX10_12 c10 ?_
    obtain ⟨c11, h⟩ := h
    refine n_getf (q := 21) (jj := 1) 12 8 1 rfl kX10_28 c11 ?_
    refine s_icmp_ge (q := 24) (tgt := 66) 13 rfl rfl (fun hb => ?_) (fun hb => ?_)
    · skip
      have b12 := hb
      replace h := h.1 hb
      refine s_aload_n (q := 67) 35 0 rfl rfl ?_
      refine n_getf (q := 70) (jj := 1) 36 10 1 rfl kX10_18 c10 ?_
      refine s_iload_n (q := 71) 37 1 rfl rfl ?_
      refine s_sipush (q := 74) 38 rfl ?_
      obtain ⟨c13, h⟩ := h
      obtain ⟨c14, h⟩ := h
      obtain ⟨c15, h⟩ := h
      refine n_iast (q := 75) 39 rfl c13 c14 c15 ?_
      refine PW.nameE (fun E3 eE3 => ?_)
      replace h := h E3 eE3
      refine s_aload_n (q := 76) 40 0 rfl rfl ?_
      refine n_getf (q := 79) (jj := 2) 41 10 2 rfl kX10_22 c10 ?_
      refine s_iload_n (q := 80) 42 1 rfl rfl ?_
      refine s_aload_n (q := 81) 43 0 rfl rfl ?_
      refine n_getf (q := 84) (jj := 0) 44 10 0 rfl kX10_12 c10 ?_
      refine n_getf (q := 87) (jj := 1) 45 8 1 rfl kX10_28 c11 ?_
      obtain ⟨c16, h⟩ := h
      obtain ⟨c17, h⟩ := h
      obtain ⟨c18, h⟩ := h
      refine n_iast (q := 88) 46 rfl c16 c17 c18 ?_
      refine PW.nameE (fun E4 eE4 => ?_)
      replace h := h E4 eE4
      exact s_vret 47 rfl rfl h
    · skip
      have b12 := hb
      replace h := h.2 hb
      refine s_aload_n (q := 25) 14 0 rfl rfl ?_
      refine n_getf (q := 28) (jj := 0) 15 10 0 rfl kX10_12 c10 ?_
      refine s_iload_n (q := 29) 16 2 rfl rfl ?_
      refine n_callV (N := mX8_at) (as := [(0, x2)]) (st := []) (q := 32) (d' := 0) 17 rfl uX8_at kX10_32 rfl c11 ?_
      show PW l G 0 mX8_at (0, 0) 0 [(0, (2, F x0 0)), (1, (0, x2))] [] (n, K, F, E) _
      refine s_aload_n (q := 1) 0 0 rfl rfl ?_
      refine n_getf (q := 4) (jj := 0) 1 8 0 rfl kX8_9 c11 ?_
      refine s_iload_n (q := 5) 2 1 rfl rfl ?_
      obtain ⟨c19, h⟩ := h
      obtain ⟨c20, h⟩ := h
      obtain ⟨c21, h⟩ := h
      refine n_bald (q := 6) 3 2 rfl c19 c20 c21 ?_
      refine s_sipush (q := 9) 4 rfl ?_
      refine s_iand (q := 10) 5 rfl ?_
      refine s_iret 6 rfl rfl ?_
      show PW l G 8 mX10_readAll bg 32 [(0, (2, x0)), (1, (0, x1)), (2, (0, x2)), (3, (0, x3))] [(0, bAnd (E (F (F x0 0) 0) x2) 255)] (n, K, F, E) Q
      refine s_bipush (q := 34) 18 rfl ?_
      refine s_icmp_ne (q := 37) (tgt := 43) 19 rfl rfl (fun hb => ?_) (fun hb => ?_)
      · skip
        have b22 := hb
        replace h := h.1 hb
        refine s_aload_n (q := 44) 22 0 rfl rfl ?_
        refine n_getf (q := 47) (jj := 2) 23 10 2 rfl kX10_22 c10 ?_
        refine s_iload_n (q := 48) 24 1 rfl rfl ?_
        refine s_iload_n (q := 49) 25 2 rfl rfl ?_
        obtain ⟨c23, h⟩ := h
        obtain ⟨c24, h⟩ := h
        obtain ⟨c25, h⟩ := h
        refine n_iast (q := 50) 26 rfl c23 c24 c25 ?_
        refine PW.nameE (fun E5 eE5 => ?_)
        replace h := h E5 eE5
        refine s_aload_n (q := 51) 27 0 rfl rfl ?_
        refine s_iload_n (q := 52) 28 1 rfl rfl ?_
        refine s_iload_n (q := 53) 29 2 rfl rfl ?_
        refine PW.pick [0, 1, 3] rfl ?_
        exact n_callV (N := mX10_readOne) (as := [(0, x1), (0, x2)]) (st := []) (q := 56) (d' := 7) 30 rfl uX10_readOne kX10_36 rfl c10 h
      · have hb := Classical.not_not.mp hb
        have b22 := hb
        replace h := h.2 hb
        obtain ⟨c26, h⟩ := h
        refine n_iinc (q := 40) (lv' := [(2, (0, x2 + 1)), (0, (2, x0)), (1, (0, x1)), (3, (0, x3))]) 20 2 rfl rfl c26 rfl ?_
        refine s_goto (tgt := 60) 21 rfl rfl ?_
        obtain ⟨c27, h⟩ := h
        refine n_iinc (q := 63) (lv' := [(3, (0, x3 + 1)), (2, (0, x2 + 1)), (0, (2, x0)), (1, (0, x1))]) 33 3 rfl rfl c27 rfl ?_
        refine s_goto (tgt := 6) 34 rfl rfl ?_
        refine PW.pick [2, 3, 1, 0] rfl ?_
        exact h
theorem vX10_readAll_56 {l : Launch} {G : pG} {bg : Nat × Nat} {n : Nat} {K : Int → Nat × Nat} {F E : Int → Int → Int} {Q : Option pV → pM → Prop} (x0 x1 x3 s0 : Int) (h : (-2147483648 ≤ x1 + 1 ∧ x1 + 1 < 2147483648) ∧ (-2147483648 ≤ x3 + 1 ∧ x3 + 1 < 2147483648) ∧ PW l G 8 mX10_readAll bg 6 [(0, (2, x0)), (1, (0, x1 + 1)), (2, (0, s0)), (3, (0, x3 + 1))] [] (n, K, F, E) Q) : PW l G 8 mX10_readAll bg 56 [(0, (2, x0)), (1, (0, x1)), (3, (0, x3))] [(0, s0)] (n, K, F, E) Q := by
  refine s_istore_n (q := 57) (lv' := [(2, (0, s0)), (0, (2, x0)), (1, (0, x1)), (3, (0, x3))]) 31 rfl rfl ?_
  obtain ⟨c1, h⟩ := h
  refine n_iinc (q := 60) (lv' := [(1, (0, x1 + 1)), (2, (0, s0)), (0, (2, x0)), (3, (0, x3))]) 32 2 rfl rfl c1 rfl ?_
  obtain ⟨c2, h⟩ := h
  refine n_iinc (q := 63) (lv' := [(3, (0, x3 + 1)), (1, (0, x1 + 1)), (2, (0, s0)), (0, (2, x0))]) 33 3 rfl rfl c2 rfl ?_
  refine s_goto (tgt := 6) 34 rfl rfl ?_
  refine PW.pick [3, 1, 2, 0] rfl ?_
  exact h
theorem vX10_readOne_0 {l : Launch} {G : pG} {bg : Nat × Nat} {n : Nat} {K : Int → Nat × Nat} {F E : Int → Int → Int} {Q : Option pV → pM → Prop} (x0 x1 x2 : Int) (h : (K x0).1 = 10 ∧ (0 : Int) ≤ F x0 3 ∧ (K (F x0 3)).1 = 20 ∧ ((0 : Int) ≤ x1 ∧ x1 < ((K (F x0 3)).2 : Int)) ∧ (∀ E1, E1 = pUp E (F x0 3) x1 0 → (K (F x0 0)).1 = 8 ∧ (0 : Int) ≤ F (F x0 0) 0 ∧ (K (F (F x0 0) 0)).1 = 22 ∧ ((0 : Int) ≤ x2 ∧ x2 < ((K (F (F x0 0) 0)).2 : Int)) ∧ ((¬ (48 ≤ bAnd (E (F (F x0 0) 0) x2) 255 ∧ bAnd (E (F (F x0 0) 0) x2) 255 < 58) → PW l G 7 mX10_readOne bg 98 [(0, (2, x0)), (1, (0, x1)), (2, (0, x2)), (3, (0, x2))] [] (n, K, F, E1) Q) ∧ (48 ≤ bAnd (E (F (F x0 0) 0) x2) 255 ∧ bAnd (E (F (F x0 0) 0) x2) 255 < 58 → (0 : Int) ≤ F x0 1 ∧ (K (F x0 1)).1 = 20 ∧ ((0 : Int) ≤ x1 ∧ x1 < ((K (F x0 1)).2 : Int)) ∧ (∀ E2, E2 = pUp E1 (F x0 1) x1 257 → PW l G 7 mX10_readOne bg 32 [(0, (2, x0)), (1, (0, x1)), (3, (0, x2))] [] (n, K, F, E2) Q))))) : PW l G 7 mX10_readOne bg 0 [(0, (2, x0)), (1, (0, x1)), (2, (0, x2))] [] (n, K, F, E) Q := by
  refine s_iload_n (q := 1) 0 2 rfl rfl ?_
  refine s_istore_n (q := 2) (lv' := [(3, (0, x2)), (0, (2, x0)), (1, (0, x1)), (2, (0, x2))]) 1 rfl rfl ?_
  refine s_aload_n (q := 3) 2 1 rfl rfl ?_
  obtain ⟨c1, h⟩ := h
  refine n_getf (q := 6) (jj := 3) 3 10 3 rfl kX10_25 c1 ?_
  refine s_iload_n (q := 7) 4 2 rfl rfl ?_
  refine s_iconst (q := 8) 5 rfl ?_
  obtain ⟨c2, h⟩ := h
  obtain ⟨c3, h⟩ := h
  obtain ⟨c4, h⟩ := h
  refine n_iast (q := 9) 6 rfl c2 c3 c4 ?_
  refine PW.nameE (fun E1 eE1 => ?_)
  replace h := h E1 eE1
  refine s_aload_n (q := 10) 7 1 rfl rfl ?_
  refine n_getf (q := 13) (jj := 0) 8 10 0 rfl kX10_12 c1 ?_
  refine s_iload_n (q := 14) 9 3 rfl rfl ?_
  obtain ⟨c5, h⟩ := h
  refine n_callV (N := mX8_at) (as := [(0, x2)]) (st := []) (q := 17) (d' := 0) 10 rfl uX8_at kX10_32 rfl c5 ?_
  show PW l G 0 mX8_at (0, 0) 0 [(0, (2, F x0 0)), (1, (0, x2))] [] (n, K, F, E1) _
  refine s_aload_n (q := 1) 0 0 rfl rfl ?_
  refine n_getf (q := 4) (jj := 0) 1 8 0 rfl kX8_9 c5 ?_
  refine s_iload_n (q := 5) 2 1 rfl rfl ?_
  obtain ⟨c6, h⟩ := h
  obtain ⟨c7, h⟩ := h
  obtain ⟨c8, h⟩ := h
  refine n_bald (q := 6) 3 2 rfl c6 c7 c8 ?_
  refine PW.top (b := E (F (F x0 0) 0) x2) (by exact (congrFun (congrFun eE1 _) _).trans (pUp_K c3 c7 (by decide))) ?_
  refine s_sipush (q := 9) 4 rfl ?_
  refine s_iand (q := 10) 5 rfl ?_
  refine s_iret 6 rfl rfl ?_
  show PW l G 7 mX10_readOne bg 17 [(3, (0, x2)), (0, (2, x0)), (1, (0, x1)), (2, (0, x2))] [(0, bAnd (E (F (F x0 0) 0) x2) 255)] (n, K, F, E1) Q
  refine n_callS (N := mX10_isFigure) (as := [(0, bAnd (E (F (F x0 0) 0) x2) 255)]) (st := []) (q := 20) (d' := 0) 11 rfl uX10_isFigure kX10_40 rfl (pX10_isFigure ?_)
  show PW l G 7 mX10_readOne bg 20 [(3, (0, x2)), (0, (2, x0)), (1, (0, x1)), (2, (0, x2))] [(0, bI (48 ≤ bAnd (E (F (F x0 0) 0) x2) 255 ∧ bAnd (E (F (F x0 0) 0) x2) 255 < 58))] (n, K, F, E1) Q
  refine s_if_eq (q := 23) (tgt := 98) 12 rfl rfl (fun hb => ?_) (fun hb => ?_)
  · have hb := bI_f hb
    have b9 := hb
    replace h := h.1 hb
    refine PW.pick [1, 2, 3, 0] rfl ?_
    exact h
  · have hb := bI_t hb
    have b9 := hb
    replace h := h.2 hb
    refine s_aload_n (q := 24) 13 1 rfl rfl ?_
    refine n_getf (q := 27) (jj := 1) 14 10 1 rfl kX10_18 c1 ?_
    refine s_iload_n (q := 28) 15 2 rfl rfl ?_
    refine s_sipush (q := 31) 16 rfl ?_
    obtain ⟨c10, h⟩ := h
    obtain ⟨c11, h⟩ := h
    obtain ⟨c12, h⟩ := h
    refine n_iast (q := 32) 17 rfl c10 c11 c12 ?_
    refine PW.nameE (fun E2 eE2 => ?_)
    replace h := h E2 eE2
    refine PW.pick [1, 2, 0] rfl ?_
    exact h
theorem vX10_readOne_32 {l : Launch} {G : pG} {bg : Nat × Nat} {n : Nat} {K : Int → Nat × Nat} {F E : Int → Int → Int} {Q : Option pV → pM → Prop} (x0 x1 x3 : Int) (h : (K x0).1 = 10 ∧ (K (F x0 0)).1 = 8 ∧ ((F (F x0 0) 1 ≤ x3 → Q (some (0, x3)) (n, K, F, E)) ∧ (¬ (F (F x0 0) 1 ≤ x3) → (0 : Int) ≤ F (F x0 0) 0 ∧ (K (F (F x0 0) 0)).1 = 22 ∧ ((0 : Int) ≤ x3 ∧ x3 < ((K (F (F x0 0) 0)).2 : Int)) ∧ ((¬ (48 ≤ bAnd (E (F (F x0 0) 0) x3) 255 ∧ bAnd (E (F (F x0 0) 0) x3) 255 < 58) → Q (some (0, x3)) (n, K, F, E)) ∧ (48 ≤ bAnd (E (F (F x0 0) 0) x3) 255 ∧ bAnd (E (F (F x0 0) 0) x3) 255 < 58 → (K (F x0 3)).1 = 20 ∧ ((0 : Int) ≤ x1 ∧ x1 < ((K (F x0 3)).2 : Int)) ∧ (-2147483648 ≤ (E (F x0 3) x1) * 10 ∧ (E (F x0 3) x1) * 10 < 2147483648) ∧ (-2147483648 ≤ ((E (F x0 3) x1) * 10) + (bAnd (E (F (F x0 0) 0) x3) 255) ∧ ((E (F x0 3) x1) * 10) + (bAnd (E (F (F x0 0) 0) x3) 255) < 2147483648) ∧ (∀ a1, a1 = ((E (F x0 3) x1) * 10) + (bAnd (E (F (F x0 0) 0) x3) 255) → (-2147483648 ≤ a1 - 48 ∧ a1 - 48 < 2147483648) ∧ (0 : Int) ≤ F x0 3 ∧ (∀ E2, E2 = pUp E (F x0 3) x1 (min 1001 (a1 - 48)) → (-2147483648 ≤ x3 + 1 ∧ x3 + 1 < 2147483648) ∧ PW l G 7 mX10_readOne bg 32 [(0, (2, x0)), (1, (0, x1)), (3, (0, x3 + 1))] [] (n, K, F, E2) Q))))))) : PW l G 7 mX10_readOne bg 32 [(0, (2, x0)), (1, (0, x1)), (3, (0, x3))] [] (n, K, F, E) Q := by
  refine s_iload_n (q := 33) 18 2 rfl rfl ?_
  refine s_aload_n (q := 34) 19 0 rfl rfl ?_
  obtain ⟨c1, h⟩ := h
  refine n_getf (q := 37) (jj := 0) 20 10 0 rfl kX10_12 c1 ?_
  obtain ⟨c2, h⟩ := h
  refine n_getf (q := 40) (jj := 1) 21 8 1 rfl kX10_28 c2 ?_
  refine s_icmp_ge (q := 43) (tgt := 96) 22 rfl rfl (fun hb => ?_) (fun hb => ?_)
  · skip
    have b3 := hb
    replace h := h.1 hb
    refine s_iload_n (q := 97) 50 2 rfl rfl ?_
    exact s_iret 51 rfl rfl h
  · skip
    have b3 := hb
    replace h := h.2 hb
    refine s_aload_n (q := 44) 23 0 rfl rfl ?_
    refine n_getf (q := 47) (jj := 0) 24 10 0 rfl kX10_12 c1 ?_
    refine s_iload_n (q := 48) 25 2 rfl rfl ?_
    refine n_callV (N := mX8_at) (as := [(0, x3)]) (st := []) (q := 51) (d' := 0) 26 rfl uX8_at kX10_32 rfl c2 ?_
    show PW l G 0 mX8_at (0, 0) 0 [(0, (2, F x0 0)), (1, (0, x3))] [] (n, K, F, E) _
    refine s_aload_n (q := 1) 0 0 rfl rfl ?_
    refine n_getf (q := 4) (jj := 0) 1 8 0 rfl kX8_9 c2 ?_
    refine s_iload_n (q := 5) 2 1 rfl rfl ?_
    obtain ⟨c4, h⟩ := h
    obtain ⟨c5, h⟩ := h
    obtain ⟨c6, h⟩ := h
    refine n_bald (q := 6) 3 2 rfl c4 c5 c6 ?_
    refine s_sipush (q := 9) 4 rfl ?_
    refine s_iand (q := 10) 5 rfl ?_
    refine s_iret 6 rfl rfl ?_
    show PW l G 7 mX10_readOne bg 51 [(0, (2, x0)), (1, (0, x1)), (3, (0, x3))] [(0, bAnd (E (F (F x0 0) 0) x3) 255)] (n, K, F, E) Q
    refine n_callS (N := mX10_isFigure) (as := [(0, bAnd (E (F (F x0 0) 0) x3) 255)]) (st := []) (q := 54) (d' := 0) 27 rfl uX10_isFigure kX10_40 rfl (pX10_isFigure ?_)
    show PW l G 7 mX10_readOne bg 54 [(0, (2, x0)), (1, (0, x1)), (3, (0, x3))] [(0, bI (48 ≤ bAnd (E (F (F x0 0) 0) x3) 255 ∧ bAnd (E (F (F x0 0) 0) x3) 255 < 58))] (n, K, F, E) Q
    refine s_if_eq (q := 57) (tgt := 96) 28 rfl rfl (fun hb => ?_) (fun hb => ?_)
    · have hb := bI_f hb
      have b7 := hb
      replace h := h.1 hb
      refine s_iload_n (q := 97) 50 2 rfl rfl ?_
      exact s_iret 51 rfl rfl h
    · have hb := bI_t hb
      have b7 := hb
      replace h := h.2 hb
      refine s_aload_n (q := 58) 29 0 rfl rfl ?_
      refine n_getf (q := 61) (jj := 3) 30 10 3 rfl kX10_25 c1 ?_
      refine s_iload_n (q := 62) 31 1 rfl rfl ?_
      refine s_sipush (q := 65) 32 rfl ?_
      refine s_aload_n (q := 66) 33 0 rfl rfl ?_
      refine n_getf (q := 69) (jj := 3) 34 10 3 rfl kX10_25 c1 ?_
      refine s_iload_n (q := 70) 35 1 rfl rfl ?_
      obtain ⟨c8, h⟩ := h
      obtain ⟨c9, h⟩ := h
      refine n_iald (q := 71) 36 rfl c8 c9 ?_
      refine s_bipush (q := 73) 37 rfl ?_
      obtain ⟨c10, h⟩ := h
      refine n_imul (q := 74) 38 rfl c10 ?_
      refine s_aload_n (q := 75) 39 0 rfl rfl ?_
      refine n_getf (q := 78) (jj := 0) 40 10 0 rfl kX10_12 c1 ?_
      refine s_iload_n (q := 79) 41 2 rfl rfl ?_
      refine n_callV (N := mX8_at) (as := [(0, x3)]) (st := [(0, (E (F x0 3) x1) * 10), (0, 1001), (0, x1), (2, F x0 3)]) (q := 82) (d' := 0) 42 rfl uX8_at kX10_32 rfl c2 ?_
      show PW l G 0 mX8_at (0, 0) 0 [(0, (2, F x0 0)), (1, (0, x3))] [] (n, K, F, E) _
      refine s_aload_n (q := 1) 0 0 rfl rfl ?_
      refine n_getf (q := 4) (jj := 0) 1 8 0 rfl kX8_9 c2 ?_
      refine s_iload_n (q := 5) 2 1 rfl rfl ?_
      refine n_bald (q := 6) 3 2 rfl c4 c5 c6 ?_
      refine s_sipush (q := 9) 4 rfl ?_
      refine s_iand (q := 10) 5 rfl ?_
      refine s_iret 6 rfl rfl ?_
      show PW l G 7 mX10_readOne bg 82 [(0, (2, x0)), (1, (0, x1)), (3, (0, x3))] [(0, bAnd (E (F (F x0 0) 0) x3) 255), (0, (E (F x0 3) x1) * 10), (0, 1001), (0, x1), (2, F x0 3)] (n, K, F, E) Q
      obtain ⟨c11, h⟩ := h
      refine n_iadd (q := 83) 43 rfl c11 ?_
      refine PW.name (fun a1 ea1 => ?_)
      replace h := h a1 ea1
      refine s_bipush (q := 85) 44 rfl ?_
      obtain ⟨c12, h⟩ := h
      refine n_isub (q := 86) 45 rfl c12 ?_
      refine s_imin (q := 89) 46 rfl kX10_44 ?_
      obtain ⟨c13, h⟩ := h
      refine n_iast (q := 90) 47 rfl c13 c8 c9 ?_
      refine PW.nameE (fun E2 eE2 => ?_)
      replace h := h E2 eE2
      obtain ⟨c14, h⟩ := h
      refine n_iinc (q := 93) (lv' := [(3, (0, x3 + 1)), (0, (2, x0)), (1, (0, x1))]) 48 2 rfl rfl c14 rfl ?_
      refine s_goto (tgt := 32) 49 rfl rfl ?_
      refine PW.pick [1, 2, 0] rfl ?_
      exact h
theorem vX10_readOne_98 {l : Launch} {G : pG} {bg : Nat × Nat} {n : Nat} {K : Int → Nat × Nat} {F E : Int → Int → Int} {Q : Option pV → pM → Prop} (x0 x1 x2 x3 : Int) (h : (K x0).1 = 10 ∧ (K (F x0 0)).1 = 8 ∧ ((F (F x0 0) 1 ≤ x3 → ((¬ x3 = x2 → PC l G 6 mX10_wordAt (0, 0) [(2, x0), (0, x2), (0, x3)] (n, K, F, E) (fun r μ => PW l G 7 mX10_readOne bg 156 [(2, (0, x2)), (3, (0, x3))] (r.toList ++ [(0, x1), (2, F x0 1)]) μ Q)) ∧ (x3 = x2 → (0 : Int) ≤ F (F x0 0) 0 ∧ (K (F (F x0 0) 0)).1 = 22 ∧ ((0 : Int) ≤ x2 ∧ x2 < ((K (F (F x0 0) 0)).2 : Int)) ∧ (0 : Int) ≤ F x0 1 ∧ (K (F x0 1)).1 = 20 ∧ ((0 : Int) ≤ x1 ∧ x1 < ((K (F x0 1)).2 : Int)) ∧ (∀ E1, E1 = pUp E (F x0 1) x1 (bAnd (E (F (F x0 0) 0) x2) 255) → (-2147483648 ≤ x2 + 1 ∧ x2 + 1 < 2147483648) ∧ Q (some (0, max (x2 + 1) x3)) (n, K, F, E1))))) ∧ (¬ (F (F x0 0) 1 ≤ x3) → (0 : Int) ≤ F (F x0 0) 0 ∧ (K (F (F x0 0) 0)).1 = 22 ∧ ((0 : Int) ≤ x3 ∧ x3 < ((K (F (F x0 0) 0)).2 : Int)) ∧ ((¬ (97 ≤ bAnd (E (F (F x0 0) 0) x3) 255 ∧ bAnd (E (F (F x0 0) 0) x3) 255 < 123) → ((¬ x3 = x2 → PC l G 6 mX10_wordAt (0, 0) [(2, x0), (0, x2), (0, x3)] (n, K, F, E) (fun r μ => PW l G 7 mX10_readOne bg 156 [(2, (0, x2)), (3, (0, x3))] (r.toList ++ [(0, x1), (2, F x0 1)]) μ Q)) ∧ (x3 = x2 → ((0 : Int) ≤ x2 ∧ x2 < ((K (F (F x0 0) 0)).2 : Int)) ∧ (0 : Int) ≤ F x0 1 ∧ (K (F x0 1)).1 = 20 ∧ ((0 : Int) ≤ x1 ∧ x1 < ((K (F x0 1)).2 : Int)) ∧ (∀ E2, E2 = pUp E (F x0 1) x1 (bAnd (E (F (F x0 0) 0) x2) 255) → (-2147483648 ≤ x2 + 1 ∧ x2 + 1 < 2147483648) ∧ Q (some (0, max (x2 + 1) x3)) (n, K, F, E2))))) ∧ (97 ≤ bAnd (E (F (F x0 0) 0) x3) 255 ∧ bAnd (E (F (F x0 0) 0) x3) 255 < 123 → (-2147483648 ≤ x3 + 1 ∧ x3 + 1 < 2147483648) ∧ PW l G 7 mX10_readOne bg 98 [(0, (2, x0)), (1, (0, x1)), (2, (0, x2)), (3, (0, x3 + 1))] [] (n, K, F, E) Q))))) : PW l G 7 mX10_readOne bg 98 [(0, (2, x0)), (1, (0, x1)), (2, (0, x2)), (3, (0, x3))] [] (n, K, F, E) Q := by
  refine s_iload_n (q := 99) 52 3 rfl rfl ?_
  refine s_aload_n (q := 100) 53 0 rfl rfl ?_
  obtain ⟨c1, h⟩ := h
  refine n_getf (q := 103) (jj := 0) 54 10 0 rfl kX10_12 c1 ?_
  obtain ⟨c2, h⟩ := h
  refine n_getf (q := 106) (jj := 1) 55 8 1 rfl kX10_28 c2 ?_
  refine s_icmp_ge (q := 109) (tgt := 129) 56 rfl rfl (fun hb => ?_) (fun hb => ?_)
  · skip
    have b3 := hb
    replace h := h.1 hb
    refine s_aload_n (q := 130) 65 0 rfl rfl ?_
    refine n_getf (q := 133) (jj := 1) 66 10 1 rfl kX10_18 c1 ?_
    refine s_iload_n (q := 134) 67 1 rfl rfl ?_
    refine s_iload_n (q := 135) 68 3 rfl rfl ?_
    refine s_iload_n (q := 136) 69 2 rfl rfl ?_
    refine s_icmp_ne (q := 139) (tgt := 150) 70 rfl rfl (fun hb => ?_) (fun hb => ?_)
    · skip
      have b4 := hb
      replace h := h.1 hb
      refine s_aload_n (q := 151) 76 0 rfl rfl ?_
      refine s_iload_n (q := 152) 77 2 rfl rfl ?_
      refine s_iload_n (q := 153) 78 3 rfl rfl ?_
      refine PW.pick [2, 3] rfl ?_
      exact n_callV (N := mX10_wordAt) (as := [(0, x2), (0, x3)]) (st := [(0, x1), (2, F x0 1)]) (q := 156) (d' := 6) 79 rfl uX10_wordAt kX10_52 rfl c1 h
    · have hb := Classical.not_not.mp hb
      have b4 := hb
      replace h := h.2 hb
      refine s_aload_n (q := 140) 71 0 rfl rfl ?_
      refine n_getf (q := 143) (jj := 0) 72 10 0 rfl kX10_12 c1 ?_
      refine s_iload_n (q := 144) 73 2 rfl rfl ?_
      refine n_callV (N := mX8_at) (as := [(0, x2)]) (st := [(0, x1), (2, F x0 1)]) (q := 147) (d' := 0) 74 rfl uX8_at kX10_32 rfl c2 ?_
      show PW l G 0 mX8_at (0, 0) 0 [(0, (2, F x0 0)), (1, (0, x2))] [] (n, K, F, E) _
      refine s_aload_n (q := 1) 0 0 rfl rfl ?_
      refine n_getf (q := 4) (jj := 0) 1 8 0 rfl kX8_9 c2 ?_
      refine s_iload_n (q := 5) 2 1 rfl rfl ?_
      obtain ⟨c5, h⟩ := h
      obtain ⟨c6, h⟩ := h
      obtain ⟨c7, h⟩ := h
      refine n_bald (q := 6) 3 2 rfl c5 c6 c7 ?_
      refine s_sipush (q := 9) 4 rfl ?_
      refine s_iand (q := 10) 5 rfl ?_
      refine s_iret 6 rfl rfl ?_
      show PW l G 7 mX10_readOne bg 147 [(0, (2, x0)), (1, (0, x1)), (2, (0, x2)), (3, (0, x3))] [(0, bAnd (E (F (F x0 0) 0) x2) 255), (0, x1), (2, F x0 1)] (n, K, F, E) Q
      refine s_goto (tgt := 156) 75 rfl rfl ?_
      obtain ⟨c8, h⟩ := h
      obtain ⟨c9, h⟩ := h
      obtain ⟨c10, h⟩ := h
      refine n_iast (q := 157) 80 rfl c8 c9 c10 ?_
      refine PW.nameE (fun E1 eE1 => ?_)
      replace h := h E1 eE1
      refine s_iload_n (q := 158) 81 2 rfl rfl ?_
      refine s_iconst (q := 159) 82 rfl ?_
      obtain ⟨c11, h⟩ := h
      refine n_iadd (q := 160) 83 rfl c11 ?_
      refine s_iload_n (q := 161) 84 3 rfl rfl ?_
      refine s_imax (q := 164) 85 rfl kX10_55 ?_
      exact s_iret 86 rfl rfl h
  · skip
    have b3 := hb
    replace h := h.2 hb
    refine s_aload_n (q := 110) 57 0 rfl rfl ?_
    refine n_getf (q := 113) (jj := 0) 58 10 0 rfl kX10_12 c1 ?_
    refine s_iload_n (q := 114) 59 3 rfl rfl ?_
    refine n_callV (N := mX8_at) (as := [(0, x3)]) (st := []) (q := 117) (d' := 0) 60 rfl uX8_at kX10_32 rfl c2 ?_
    show PW l G 0 mX8_at (0, 0) 0 [(0, (2, F x0 0)), (1, (0, x3))] [] (n, K, F, E) _
    refine s_aload_n (q := 1) 0 0 rfl rfl ?_
    refine n_getf (q := 4) (jj := 0) 1 8 0 rfl kX8_9 c2 ?_
    refine s_iload_n (q := 5) 2 1 rfl rfl ?_
    obtain ⟨c12, h⟩ := h
    obtain ⟨c13, h⟩ := h
    obtain ⟨c14, h⟩ := h
    refine n_bald (q := 6) 3 2 rfl c12 c13 c14 ?_
    refine s_sipush (q := 9) 4 rfl ?_
    refine s_iand (q := 10) 5 rfl ?_
    refine s_iret 6 rfl rfl ?_
    show PW l G 7 mX10_readOne bg 117 [(0, (2, x0)), (1, (0, x1)), (2, (0, x2)), (3, (0, x3))] [(0, bAnd (E (F (F x0 0) 0) x3) 255)] (n, K, F, E) Q
    refine n_callS (N := mX10_isLetter) (as := [(0, bAnd (E (F (F x0 0) 0) x3) 255)]) (st := []) (q := 120) (d' := 0) 61 rfl uX10_isLetter kX10_49 rfl (pX10_isLetter ?_)
    show PW l G 7 mX10_readOne bg 120 [(0, (2, x0)), (1, (0, x1)), (2, (0, x2)), (3, (0, x3))] [(0, bI (97 ≤ bAnd (E (F (F x0 0) 0) x3) 255 ∧ bAnd (E (F (F x0 0) 0) x3) 255 < 123))] (n, K, F, E) Q
    refine s_if_eq (q := 123) (tgt := 129) 62 rfl rfl (fun hb => ?_) (fun hb => ?_)
    · have hb := bI_f hb
      have b15 := hb
      replace h := h.1 hb
      refine s_aload_n (q := 130) 65 0 rfl rfl ?_
      refine n_getf (q := 133) (jj := 1) 66 10 1 rfl kX10_18 c1 ?_
      refine s_iload_n (q := 134) 67 1 rfl rfl ?_
      refine s_iload_n (q := 135) 68 3 rfl rfl ?_
      refine s_iload_n (q := 136) 69 2 rfl rfl ?_
      refine s_icmp_ne (q := 139) (tgt := 150) 70 rfl rfl (fun hb => ?_) (fun hb => ?_)
      · skip
        have b16 := hb
        replace h := h.1 hb
        refine s_aload_n (q := 151) 76 0 rfl rfl ?_
        refine s_iload_n (q := 152) 77 2 rfl rfl ?_
        refine s_iload_n (q := 153) 78 3 rfl rfl ?_
        refine PW.pick [2, 3] rfl ?_
        exact n_callV (N := mX10_wordAt) (as := [(0, x2), (0, x3)]) (st := [(0, x1), (2, F x0 1)]) (q := 156) (d' := 6) 79 rfl uX10_wordAt kX10_52 rfl c1 h
      · have hb := Classical.not_not.mp hb
        have b16 := hb
        replace h := h.2 hb
        refine s_aload_n (q := 140) 71 0 rfl rfl ?_
        refine n_getf (q := 143) (jj := 0) 72 10 0 rfl kX10_12 c1 ?_
        refine s_iload_n (q := 144) 73 2 rfl rfl ?_
        refine n_callV (N := mX8_at) (as := [(0, x2)]) (st := [(0, x1), (2, F x0 1)]) (q := 147) (d' := 0) 74 rfl uX8_at kX10_32 rfl c2 ?_
        show PW l G 0 mX8_at (0, 0) 0 [(0, (2, F x0 0)), (1, (0, x2))] [] (n, K, F, E) _
        refine s_aload_n (q := 1) 0 0 rfl rfl ?_
        refine n_getf (q := 4) (jj := 0) 1 8 0 rfl kX8_9 c2 ?_
        refine s_iload_n (q := 5) 2 1 rfl rfl ?_
        obtain ⟨c17, h⟩ := h
        refine n_bald (q := 6) 3 2 rfl c12 c13 c17 ?_
        refine s_sipush (q := 9) 4 rfl ?_
        refine s_iand (q := 10) 5 rfl ?_
        refine s_iret 6 rfl rfl ?_
        show PW l G 7 mX10_readOne bg 147 [(0, (2, x0)), (1, (0, x1)), (2, (0, x2)), (3, (0, x3))] [(0, bAnd (E (F (F x0 0) 0) x2) 255), (0, x1), (2, F x0 1)] (n, K, F, E) Q
        refine s_goto (tgt := 156) 75 rfl rfl ?_
        obtain ⟨c18, h⟩ := h
        obtain ⟨c19, h⟩ := h
        obtain ⟨c20, h⟩ := h
        refine n_iast (q := 157) 80 rfl c18 c19 c20 ?_
        refine PW.nameE (fun E2 eE2 => ?_)
        replace h := h E2 eE2
        refine s_iload_n (q := 158) 81 2 rfl rfl ?_
        refine s_iconst (q := 159) 82 rfl ?_
        obtain ⟨c21, h⟩ := h
        refine n_iadd (q := 160) 83 rfl c21 ?_
        refine s_iload_n (q := 161) 84 3 rfl rfl ?_
        refine s_imax (q := 164) 85 rfl kX10_55 ?_
        exact s_iret 86 rfl rfl h
    · have hb := bI_t hb
      have b15 := hb
      replace h := h.2 hb
      obtain ⟨c22, h⟩ := h
      refine n_iinc (q := 126) (lv' := [(3, (0, x3 + 1)), (0, (2, x0)), (1, (0, x1)), (2, (0, x2))]) 63 3 rfl rfl c22 rfl ?_
      refine s_goto (tgt := 98) 64 rfl rfl ?_
      refine PW.pick [1, 2, 3, 0] rfl ?_
      exact h
theorem vX10_readOne_156 {l : Launch} {G : pG} {bg : Nat × Nat} {n : Nat} {K : Int → Nat × Nat} {F E : Int → Int → Int} {Q : Option pV → pM → Prop} (x2 x3 s0 s1 s2 : Int) (h : (0 : Int) ≤ s2 ∧ (K s2).1 = 20 ∧ ((0 : Int) ≤ s1 ∧ s1 < ((K s2).2 : Int)) ∧ (∀ E1, E1 = pUp E s2 s1 s0 → (-2147483648 ≤ x2 + 1 ∧ x2 + 1 < 2147483648) ∧ Q (some (0, max (x2 + 1) x3)) (n, K, F, E1))) : PW l G 7 mX10_readOne bg 156 [(2, (0, x2)), (3, (0, x3))] [(0, s0), (0, s1), (2, s2)] (n, K, F, E) Q := by
  obtain ⟨c1, h⟩ := h
  obtain ⟨c2, h⟩ := h
  obtain ⟨c3, h⟩ := h
  refine n_iast (q := 157) 80 rfl c1 c2 c3 ?_
  refine PW.nameE (fun E1 eE1 => ?_)
  replace h := h E1 eE1
  refine s_iload_n (q := 158) 81 0 rfl rfl ?_
  refine s_iconst (q := 159) 82 rfl ?_
  obtain ⟨c4, h⟩ := h
  refine n_iadd (q := 160) 83 rfl c4 ?_
  refine s_iload_n (q := 161) 84 1 rfl rfl ?_
  refine s_imax (q := 164) 85 rfl kX10_55 ?_
  exact s_iret 86 rfl rfl h
theorem vX10_wordAt_0 {l : Launch} {G : pG} {bg : Nat × Nat} {n : Nat} {K : Int → Nat × Nat} {F E : Int → Int → Int} {Q : Option pV → pM → Prop} (x0 x1 x2 : Int) (h : PW l G 6 mX10_wordAt bg 10 [(0, (2, x0)), (1, (0, x1)), (2, (0, x2)), (3, (0, 259)), (4, (0, 0)), (5, (0, 0))] [] (n, K, F, E) Q) : PW l G 6 mX10_wordAt bg 0 [(0, (2, x0)), (1, (0, x1)), (2, (0, x2))] [] (n, K, F, E) Q := by
  refine s_sipush (q := 3) 0 rfl ?_
  refine s_istore_n (q := 4) (lv' := [(3, (0, 259)), (0, (2, x0)), (1, (0, x1)), (2, (0, x2))]) 1 rfl rfl ?_
  refine s_iconst (q := 5) 2 rfl ?_
  refine s_istore (q := 7) (lv' := [(4, (0, 0)), (3, (0, 259)), (0, (2, x0)), (1, (0, x1)), (2, (0, x2))]) 3 rfl rfl ?_
  refine s_iconst (q := 8) 4 rfl ?_
  refine s_istore (q := 10) (lv' := [(5, (0, 0)), (4, (0, 0)), (3, (0, 259)), (0, (2, x0)), (1, (0, x1)), (2, (0, x2))]) 5 rfl rfl ?_
  refine PW.pick [3, 4, 5, 2, 1, 0] rfl ?_
  exact h
theorem vX10_wordAt_10 {l : Launch} {G : pG} {bg : Nat × Nat} {n : Nat} {K : Int → Nat × Nat} {F E : Int → Int → Int} {Q : Option pV → pM → Prop} (x0 x1 x2 x3 x4 x5 : Int) (h : ((144 < x5 → Q (some (0, 258)) (n, K, F, E)) ∧ (¬ (144 < x5) → ((x5 = 144 → (-2147483648 ≤ x5 - x4 ∧ x5 - x4 < 2147483648) ∧ (-2147483648 ≤ x2 - x1 ∧ x2 - x1 < 2147483648) ∧ ((¬ (x5 - x4) = x2 - x1 → (-2147483648 ≤ x3 + 1 ∧ x3 + 1 < 2147483648) ∧ (-2147483648 ≤ x5 + 1 ∧ x5 + 1 < 2147483648) ∧ PW l G 6 mX10_wordAt bg 10 [(0, (2, x0)), (1, (0, x1)), (2, (0, x2)), (3, (0, x3 + 1)), (4, (0, x5 + 1)), (5, (0, x5 + 1))] [] (n, K, F, E) Q) ∧ ((x5 - x4) = x2 - x1 → (K x0).1 = 10 ∧ PC l G 5 mX10_isSpelt (0, 0) [(2, x0), (0, x1), (0, x2), (0, x4)] (n, K, F, E) (fun r μ => PW l G 6 mX10_wordAt bg 61 [(0, (2, x0)), (1, (0, x1)), (2, (0, x2)), (3, (0, x3)), (5, (0, x5))] (r.toList ++ []) μ Q)))) ∧ (¬ (x5 = 144) → (0 ≤ x5 ∧ x5 < 144) ∧ ((¬ (pCh x5) = 32 → (-2147483648 ≤ x5 + 1 ∧ x5 + 1 < 2147483648) ∧ PW l G 6 mX10_wordAt bg 10 [(0, (2, x0)), (1, (0, x1)), (2, (0, x2)), (3, (0, x3)), (4, (0, x4)), (5, (0, x5 + 1))] [] (n, K, F, E) Q) ∧ ((pCh x5) = 32 → (-2147483648 ≤ x5 - x4 ∧ x5 - x4 < 2147483648) ∧ (-2147483648 ≤ x2 - x1 ∧ x2 - x1 < 2147483648) ∧ ((¬ (x5 - x4) = x2 - x1 → (-2147483648 ≤ x3 + 1 ∧ x3 + 1 < 2147483648) ∧ (-2147483648 ≤ x5 + 1 ∧ x5 + 1 < 2147483648) ∧ PW l G 6 mX10_wordAt bg 10 [(0, (2, x0)), (1, (0, x1)), (2, (0, x2)), (3, (0, x3 + 1)), (4, (0, x5 + 1)), (5, (0, x5 + 1))] [] (n, K, F, E) Q) ∧ ((x5 - x4) = x2 - x1 → (K x0).1 = 10 ∧ PC l G 5 mX10_isSpelt (0, 0) [(2, x0), (0, x1), (0, x2), (0, x4)] (n, K, F, E) (fun r μ => PW l G 6 mX10_wordAt bg 61 [(0, (2, x0)), (1, (0, x1)), (2, (0, x2)), (3, (0, x3)), (5, (0, x5))] (r.toList ++ []) μ Q)))))))))) : PW l G 6 mX10_wordAt bg 10 [(0, (2, x0)), (1, (0, x1)), (2, (0, x2)), (3, (0, x3)), (4, (0, x4)), (5, (0, x5))] [] (n, K, F, E) Q := by
  refine s_iload (q := 12) 6 5 rfl rfl ?_
  refine s_ldcS (q := 14) 7 rfl rfl ?_
  refine s_strlen (q := 17) 8 rfl kX10_60 ?_
  refine s_icmp_gt (q := 20) (tgt := 81) 9 rfl rfl (fun hb => ?_) (fun hb => ?_)
  · skip
    have b1 := hb
    replace h := h.1 hb
    refine s_sipush (q := 84) 41 rfl ?_
    exact s_iret 42 rfl rfl h
  · skip
    have b1 := hb
    replace h := h.2 hb
    refine s_iload (q := 22) 10 5 rfl rfl ?_
    refine s_ldcS (q := 24) 11 rfl rfl ?_
    refine s_strlen (q := 27) 12 rfl kX10_60 ?_
    refine s_icmp_eq (q := 30) (tgt := 42) 13 rfl rfl (fun hb => ?_) (fun hb => ?_)
    · skip
      have b2 := hb
      replace h := h.1 hb
      refine s_iload (q := 44) 19 5 rfl rfl ?_
      refine s_iload (q := 46) 20 4 rfl rfl ?_
      obtain ⟨c3, h⟩ := h
      refine n_isub (q := 47) 21 rfl c3 ?_
      refine s_iload_n (q := 48) 22 2 rfl rfl ?_
      refine s_iload_n (q := 49) 23 1 rfl rfl ?_
      obtain ⟨c4, h⟩ := h
      refine n_isub (q := 50) 24 rfl c4 ?_
      refine s_icmp_ne (q := 53) (tgt := 66) 25 rfl rfl (fun hb => ?_) (fun hb => ?_)
      · skip
        have b5 := hb
        replace h := h.1 hb
        obtain ⟨c6, h⟩ := h
        refine n_iinc (q := 69) (lv' := [(3, (0, x3 + 1)), (0, (2, x0)), (1, (0, x1)), (2, (0, x2)), (4, (0, x4)), (5, (0, x5))]) 34 3 rfl rfl c6 rfl ?_
        refine s_iload (q := 71) 35 5 rfl rfl ?_
        refine s_iconst (q := 72) 36 rfl ?_
        obtain ⟨c7, h⟩ := h
        refine n_iadd (q := 73) 37 rfl c7 ?_
        refine s_istore (q := 75) (lv' := [(4, (0, x5 + 1)), (3, (0, x3 + 1)), (0, (2, x0)), (1, (0, x1)), (2, (0, x2)), (5, (0, x5))]) 38 rfl rfl ?_
        refine n_iinc (q := 78) (lv' := [(5, (0, x5 + 1)), (4, (0, x5 + 1)), (3, (0, x3 + 1)), (0, (2, x0)), (1, (0, x1)), (2, (0, x2))]) 39 5 rfl rfl c7 rfl ?_
        refine s_goto (tgt := 10) 40 rfl rfl ?_
        refine PW.pick [3, 4, 5, 2, 1, 0] rfl ?_
        exact h
      · have hb := Classical.not_not.mp hb
        have b5 := hb
        replace h := h.2 hb
        refine s_aload_n (q := 54) 26 0 rfl rfl ?_
        refine s_iload_n (q := 55) 27 1 rfl rfl ?_
        refine s_iload_n (q := 56) 28 2 rfl rfl ?_
        refine s_iload (q := 58) 29 4 rfl rfl ?_
        obtain ⟨c8, h⟩ := h
        refine PW.pick [0, 1, 2, 3, 5] rfl ?_
        exact n_callV (N := mX10_isSpelt) (as := [(0, x1), (0, x2), (0, x4)]) (st := []) (q := 61) (d' := 5) 30 rfl uX10_isSpelt kX10_69 rfl c8 h
    · skip
      have b2 := hb
      replace h := h.2 hb
      refine s_ldcS (q := 32) 14 rfl rfl ?_
      refine s_iload (q := 34) 15 5 rfl rfl ?_
      obtain ⟨c9, h⟩ := h
      refine s_charAt (q := 37) 16 rfl kX10_65 c9 ?_
      refine s_bipush (q := 39) 17 rfl ?_
      refine s_icmp_ne (q := 42) (tgt := 75) 18 rfl rfl (fun hb => ?_) (fun hb => ?_)
      · skip
        have b10 := hb
        replace h := h.1 hb
        obtain ⟨c11, h⟩ := h
        refine n_iinc (q := 78) (lv' := [(5, (0, x5 + 1)), (0, (2, x0)), (1, (0, x1)), (2, (0, x2)), (3, (0, x3)), (4, (0, x4))]) 39 5 rfl rfl c11 rfl ?_
        refine s_goto (tgt := 10) 40 rfl rfl ?_
        refine PW.pick [1, 2, 3, 4, 5, 0] rfl ?_
        exact h
      · have hb := Classical.not_not.mp hb
        have b10 := hb
        replace h := h.2 hb
        refine s_iload (q := 44) 19 5 rfl rfl ?_
        refine s_iload (q := 46) 20 4 rfl rfl ?_
        obtain ⟨c12, h⟩ := h
        refine n_isub (q := 47) 21 rfl c12 ?_
        refine s_iload_n (q := 48) 22 2 rfl rfl ?_
        refine s_iload_n (q := 49) 23 1 rfl rfl ?_
        obtain ⟨c13, h⟩ := h
        refine n_isub (q := 50) 24 rfl c13 ?_
        refine s_icmp_ne (q := 53) (tgt := 66) 25 rfl rfl (fun hb => ?_) (fun hb => ?_)
        · skip
          have b14 := hb
          replace h := h.1 hb
          obtain ⟨c15, h⟩ := h
          refine n_iinc (q := 69) (lv' := [(3, (0, x3 + 1)), (0, (2, x0)), (1, (0, x1)), (2, (0, x2)), (4, (0, x4)), (5, (0, x5))]) 34 3 rfl rfl c15 rfl ?_
          refine s_iload (q := 71) 35 5 rfl rfl ?_
          refine s_iconst (q := 72) 36 rfl ?_
          obtain ⟨c16, h⟩ := h
          refine n_iadd (q := 73) 37 rfl c16 ?_
          refine s_istore (q := 75) (lv' := [(4, (0, x5 + 1)), (3, (0, x3 + 1)), (0, (2, x0)), (1, (0, x1)), (2, (0, x2)), (5, (0, x5))]) 38 rfl rfl ?_
          refine n_iinc (q := 78) (lv' := [(5, (0, x5 + 1)), (4, (0, x5 + 1)), (3, (0, x3 + 1)), (0, (2, x0)), (1, (0, x1)), (2, (0, x2))]) 39 5 rfl rfl c16 rfl ?_
          refine s_goto (tgt := 10) 40 rfl rfl ?_
          refine PW.pick [3, 4, 5, 2, 1, 0] rfl ?_
          exact h
        · have hb := Classical.not_not.mp hb
          have b14 := hb
          replace h := h.2 hb
          refine s_aload_n (q := 54) 26 0 rfl rfl ?_
          refine s_iload_n (q := 55) 27 1 rfl rfl ?_
          refine s_iload_n (q := 56) 28 2 rfl rfl ?_
          refine s_iload (q := 58) 29 4 rfl rfl ?_
          obtain ⟨c17, h⟩ := h
          refine PW.pick [0, 1, 2, 3, 5] rfl ?_
          exact n_callV (N := mX10_isSpelt) (as := [(0, x1), (0, x2), (0, x4)]) (st := []) (q := 61) (d' := 5) 30 rfl uX10_isSpelt kX10_69 rfl c17 h
theorem vX10_wordAt_61 {l : Launch} {G : pG} {bg : Nat × Nat} {n : Nat} {K : Int → Nat × Nat} {F E : Int → Int → Int} {Q : Option pV → pM → Prop} (x0 x1 x2 x3 x5 s0 : Int) (h : ((s0 = 0 → (-2147483648 ≤ x3 + 1 ∧ x3 + 1 < 2147483648) ∧ (-2147483648 ≤ x5 + 1 ∧ x5 + 1 < 2147483648) ∧ PW l G 6 mX10_wordAt bg 10 [(0, (2, x0)), (1, (0, x1)), (2, (0, x2)), (3, (0, x3 + 1)), (4, (0, x5 + 1)), (5, (0, x5 + 1))] [] (n, K, F, E) Q) ∧ (¬ (s0 = 0) → Q (some (0, x3)) (n, K, F, E)))) : PW l G 6 mX10_wordAt bg 61 [(0, (2, x0)), (1, (0, x1)), (2, (0, x2)), (3, (0, x3)), (5, (0, x5))] [(0, s0)] (n, K, F, E) Q := by
  refine s_if_eq (q := 64) (tgt := 66) 31 rfl rfl (fun hb => ?_) (fun hb => ?_)
  · skip
    have b1 := hb
    replace h := h.1 hb
    obtain ⟨c2, h⟩ := h
    refine n_iinc (q := 69) (lv' := [(3, (0, x3 + 1)), (0, (2, x0)), (1, (0, x1)), (2, (0, x2)), (5, (0, x5))]) 34 3 rfl rfl c2 rfl ?_
    refine s_iload (q := 71) 35 4 rfl rfl ?_
    refine s_iconst (q := 72) 36 rfl ?_
    obtain ⟨c3, h⟩ := h
    refine n_iadd (q := 73) 37 rfl c3 ?_
    refine s_istore (q := 75) (lv' := [(4, (0, x5 + 1)), (3, (0, x3 + 1)), (0, (2, x0)), (1, (0, x1)), (2, (0, x2)), (5, (0, x5))]) 38 rfl rfl ?_
    refine n_iinc (q := 78) (lv' := [(5, (0, x5 + 1)), (4, (0, x5 + 1)), (3, (0, x3 + 1)), (0, (2, x0)), (1, (0, x1)), (2, (0, x2))]) 39 5 rfl rfl c3 rfl ?_
    refine s_goto (tgt := 10) 40 rfl rfl ?_
    refine PW.pick [3, 4, 5, 2, 1, 0] rfl ?_
    exact h
  · skip
    have b1 := hb
    replace h := h.2 hb
    refine s_iload_n (q := 65) 32 3 rfl rfl ?_
    exact s_iret 33 rfl rfl h
theorem vX10_isSpelt_0 {l : Launch} {G : pG} {bg : Nat × Nat} {n : Nat} {K : Int → Nat × Nat} {F E : Int → Int → Int} {Q : Option pV → pM → Prop} (x0 x1 x2 x3 : Int) (h : PW l G 5 mX10_isSpelt bg 3 [(0, (2, x0)), (1, (0, x1)), (2, (0, x2)), (3, (0, x3)), (4, (0, x1))] [] (n, K, F, E) Q) : PW l G 5 mX10_isSpelt bg 0 [(0, (2, x0)), (1, (0, x1)), (2, (0, x2)), (3, (0, x3))] [] (n, K, F, E) Q := by
  refine s_iload_n (q := 1) 0 1 rfl rfl ?_
  refine s_istore (q := 3) (lv' := [(4, (0, x1)), (0, (2, x0)), (1, (0, x1)), (2, (0, x2)), (3, (0, x3))]) 1 rfl rfl ?_
  refine PW.pick [1, 2, 3, 4, 0] rfl ?_
  exact h
theorem vX10_isSpelt_3 {l : Launch} {G : pG} {bg : Nat × Nat} {n : Nat} {K : Int → Nat × Nat} {F E : Int → Int → Int} {Q : Option pV → pM → Prop} (x0 x1 x2 x3 x4 : Int) (h : ((x2 ≤ x4 → Q (some (0, 1)) (n, K, F, E)) ∧ (¬ (x2 ≤ x4) → (K x0).1 = 10 ∧ (K (F x0 0)).1 = 8 ∧ (0 : Int) ≤ F (F x0 0) 0 ∧ (K (F (F x0 0) 0)).1 = 22 ∧ ((0 : Int) ≤ x4 ∧ x4 < ((K (F (F x0 0) 0)).2 : Int)) ∧ (-2147483648 ≤ x3 + x4 ∧ x3 + x4 < 2147483648) ∧ (-2147483648 ≤ (x3 + x4) - x1 ∧ (x3 + x4) - x1 < 2147483648) ∧ (0 ≤ (x3 + x4) - x1 ∧ (x3 + x4) - x1 < 144) ∧ ((bAnd (E (F (F x0 0) 0) x4) 255 = pCh ((x3 + x4) - x1) → (-2147483648 ≤ x4 + 1 ∧ x4 + 1 < 2147483648) ∧ PW l G 5 mX10_isSpelt bg 3 [(0, (2, x0)), (1, (0, x1)), (2, (0, x2)), (3, (0, x3)), (4, (0, x4 + 1))] [] (n, K, F, E) Q) ∧ (¬ (bAnd (E (F (F x0 0) 0) x4) 255 = pCh ((x3 + x4) - x1)) → Q (some (0, 0)) (n, K, F, E)))))) : PW l G 5 mX10_isSpelt bg 3 [(0, (2, x0)), (1, (0, x1)), (2, (0, x2)), (3, (0, x3)), (4, (0, x4))] [] (n, K, F, E) Q := by
  refine s_iload (q := 5) 2 4 rfl rfl ?_
  refine s_iload_n (q := 6) 3 2 rfl rfl ?_
  refine s_icmp_ge (q := 9) (tgt := 40) 4 rfl rfl (fun hb => ?_) (fun hb => ?_)
  · skip
    have b1 := hb
    replace h := h.1 hb
    refine s_iconst (q := 41) 21 rfl ?_
    exact s_zret 22 rfl rfl (by decide) h
  · skip
    have b1 := hb
    replace h := h.2 hb
    refine s_aload_n (q := 10) 5 0 rfl rfl ?_
    obtain ⟨c2, h⟩ := h
    refine n_getf (q := 13) (jj := 0) 6 10 0 rfl kX10_12 c2 ?_
    refine s_iload (q := 15) 7 4 rfl rfl ?_
    obtain ⟨c3, h⟩ := h
    refine n_callV (N := mX8_at) (as := [(0, x4)]) (st := []) (q := 18) (d' := 0) 8 rfl uX8_at kX10_32 rfl c3 ?_
    show PW l G 0 mX8_at (0, 0) 0 [(0, (2, F x0 0)), (1, (0, x4))] [] (n, K, F, E) _
    refine s_aload_n (q := 1) 0 0 rfl rfl ?_
    refine n_getf (q := 4) (jj := 0) 1 8 0 rfl kX8_9 c3 ?_
    refine s_iload_n (q := 5) 2 1 rfl rfl ?_
    obtain ⟨c4, h⟩ := h
    obtain ⟨c5, h⟩ := h
    obtain ⟨c6, h⟩ := h
    refine n_bald (q := 6) 3 2 rfl c4 c5 c6 ?_
    refine s_sipush (q := 9) 4 rfl ?_
    refine s_iand (q := 10) 5 rfl ?_
    refine s_iret 6 rfl rfl ?_
    show PW l G 5 mX10_isSpelt bg 18 [(0, (2, x0)), (1, (0, x1)), (2, (0, x2)), (3, (0, x3)), (4, (0, x4))] [(0, bAnd (E (F (F x0 0) 0) x4) 255)] (n, K, F, E) Q
    refine s_ldcS (q := 20) 9 rfl rfl ?_
    refine s_iload_n (q := 21) 10 3 rfl rfl ?_
    refine s_iload (q := 23) 11 4 rfl rfl ?_
    obtain ⟨c7, h⟩ := h
    refine n_iadd (q := 24) 12 rfl c7 ?_
    refine s_iload_n (q := 25) 13 1 rfl rfl ?_
    obtain ⟨c8, h⟩ := h
    refine n_isub (q := 26) 14 rfl c8 ?_
    obtain ⟨c9, h⟩ := h
    refine s_charAt (q := 29) 15 rfl kX10_65 c9 ?_
    refine s_icmp_eq (q := 32) (tgt := 34) 16 rfl rfl (fun hb => ?_) (fun hb => ?_)
    · skip
      have b10 := hb
      replace h := h.1 hb
      obtain ⟨c11, h⟩ := h
      refine n_iinc (q := 37) (lv' := [(4, (0, x4 + 1)), (0, (2, x0)), (1, (0, x1)), (2, (0, x2)), (3, (0, x3))]) 19 4 rfl rfl c11 rfl ?_
      refine s_goto (tgt := 3) 20 rfl rfl ?_
      refine PW.pick [1, 2, 3, 4, 0] rfl ?_
      exact h
    · skip
      have b10 := hb
      replace h := h.2 hb
      refine s_iconst (q := 33) 17 rfl ?_
      exact s_zret 18 rfl rfl (by decide) h
