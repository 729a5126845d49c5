theorem vX11_days_0 {l : Launch} {G : pG} {bg : Nat × Nat} {n : Nat} {K : Int → Nat × Nat} {F E : Int → Int → Int} {Q : Option pV → pM → Prop} (x0 x1 x2 : Int) (h : ((x1 < 0 → (K x0).1 = 11 ∧ (∀ F1, F1 = pUp F x0 16 (-1) → (K (F x0 13)).1 = 20 ∧ ((0 : Int) ≤ 0 ∧ 0 < ((K (F x0 13)).2 : Int)) ∧ (-2147483648 ≤ (E (F x0 13) 0) + 1 ∧ (E (F x0 13) 0) + 1 < 2147483648) ∧ (0 : Int) ≤ F x0 13 ∧ (∀ E2, E2 = pUp E (F x0 13) 0 ((E (F x0 13) 0) + 1) → Q (some (0, (-1))) (n, K, F1, E2)))) ∧ (¬ (x1 < 0) → ((1000000 < x1 → (K x0).1 = 11 ∧ (∀ F3, F3 = pUp F x0 16 (-1) → (K (F x0 13)).1 = 20 ∧ ((0 : Int) ≤ 0 ∧ 0 < ((K (F x0 13)).2 : Int)) ∧ (-2147483648 ≤ (E (F x0 13) 0) + 1 ∧ (E (F x0 13) 0) + 1 < 2147483648) ∧ (0 : Int) ≤ F x0 13 ∧ (∀ E4, E4 = pUp E (F x0 13) 0 ((E (F x0 13) 0) + 1) → Q (some (0, (-1))) (n, K, F3, E4)))) ∧ (¬ (1000000 < x1) → ((x2 < 1 → (K x0).1 = 11 ∧ (∀ F5, F5 = pUp F x0 16 (-1) → (K (F x0 13)).1 = 20 ∧ ((0 : Int) ≤ 0 ∧ 0 < ((K (F x0 13)).2 : Int)) ∧ (-2147483648 ≤ (E (F x0 13) 0) + 1 ∧ (E (F x0 13) 0) + 1 < 2147483648) ∧ (0 : Int) ≤ F x0 13 ∧ (∀ E6, E6 = pUp E (F x0 13) 0 ((E (F x0 13) 0) + 1) → Q (some (0, (-1))) (n, K, F5, E6)))) ∧ (¬ (x2 < 1) → ((x2 ≤ 60 → (K x0).1 = 11 ∧ (K (F x0 0)).1 = 1 ∧ (K (F x0 6)).1 = 0 ∧ (K (F (F x0 0) 0)).1 = 0 ∧ (0 : Int) ≤ F (F (F x0 0) 0) 0 ∧ (K (F (F (F x0 0) 0) 0)).1 = 20 ∧ (0 : Int) ≤ F (F x0 6) 0 ∧ (K (F (F x0 6) 0)).1 = 20 ∧ ((0 : Int) ≤ 0 ∧ (0 : Int) ≤ 0 ∧ (0 : Int) ≤ 117 ∧ 0 + 117 ≤ ((K (F (F (F x0 0) 0) 0)).2 : Int) ∧ 0 + 117 ≤ ((K (F (F x0 6) 0)).2 : Int)) ∧ (∀ E7, E7 = pRow E (F (F x0 6) 0) (pCpy E (F (F (F x0 0) 0) 0) 0 (F (F x0 6) 0) 0 117) → (∀ F8, F8 = pUp F x0 7 1 → PW l G 32 mX11_days bg 52 [(0, (2, x0)), (2, (0, x2)), (3, (0, x1)), (4, (0, 0))] [] (n, K, F8, E7) Q))) ∧ (¬ (x2 ≤ 60) → (K x0).1 = 11 ∧ (∀ F9, F9 = pUp F x0 16 (-1) → (K (F x0 13)).1 = 20 ∧ ((0 : Int) ≤ 0 ∧ 0 < ((K (F x0 13)).2 : Int)) ∧ (-2147483648 ≤ (E (F x0 13) 0) + 1 ∧ (E (F x0 13) 0) + 1 < 2147483648) ∧ (0 : Int) ≤ F x0 13 ∧ (∀ E10, E10 = pUp E (F x0 13) 0 ((E (F x0 13) 0) + 1) → Q (some (0, (-1))) (n, K, F9, E10)))))))))))) : PW l G 32 mX11_days bg 0 [(0, (2, x0)), (1, (0, x1)), (2, (0, x2))] [] (n, K, F, E) Q := by
  refine s_iload_n (q := 1) 0 1 rfl rfl ?_
  refine s_if_lt (q := 4) (tgt := 22) 1 rfl rfl (fun hb => ?_) (fun hb => ?_)
  · skip
    have b1 := hb
    replace h := h.1 hb
    refine s_aload_n (q := 23) 11 0 rfl rfl ?_
    refine s_iconst (q := 24) 12 rfl ?_
    obtain ⟨c2, h⟩ := h
    refine n_callV (N := mX11_refuse) (as := [(0, (-1))]) (st := []) (q := 27) (d' := 0) 13 rfl uX11_refuse kX11_114 rfl c2 ?_
    show PW l G 0 mX11_refuse (0, 0) 0 [(0, (2, x0)), (1, (0, (-1)))] [] (n, K, F, E) _
    refine s_aload_n (q := 1) 0 0 rfl rfl ?_
    refine s_iload_n (q := 2) 1 1 rfl rfl ?_
    refine n_putf (q := 5) (jj := 16) 2 11 16 rfl kX11_97 c2 (Or.inl rfl) ?_
    refine PW.nameF (fun F1 eF1 => ?_)
    replace h := h F1 eF1
    refine s_iload_n (q := 6) 3 1 rfl rfl ?_
    refine s_bipush (q := 8) 4 rfl ?_
    refine s_icmp_lt (q := 11) (tgt := 18) 5 rfl rfl (fun hb => absurd hb (by decide)) (fun _ => ?_)
    refine s_iload_n (q := 12) 6 1 rfl rfl ?_
    refine n_ineg (q := 13) 7 rfl (by decide) ?_
    refine PW.top (b := 1) (by decide) ?_
    refine s_iconst (q := 14) 8 rfl ?_
    refine n_isub (q := 15) 9 rfl (by decide) ?_
    refine PW.top (b := 0) (by decide) ?_
    refine s_goto (tgt := 22) 10 rfl rfl ?_
    refine s_istore_n (q := 23) (lv' := [(2, (0, 0)), (0, (2, x0)), (1, (0, (-1)))]) 15 rfl rfl ?_
    refine s_iload_n (q := 24) 16 0 rfl rfl ?_
    refine s_if_lt (q := 27) (tgt := 42) 17 rfl rfl (fun hb => absurd hb (by decide)) (fun _ => ?_)
    refine s_iload_n (q := 28) 18 0 rfl rfl ?_
    refine s_iconst (q := 29) 19 rfl ?_
    refine s_icmp_ge (q := 32) (tgt := 42) 20 rfl rfl (fun hb => absurd hb (by decide)) (fun _ => ?_)
    refine s_aload_n (q := 33) 21 1 rfl rfl ?_
    refine n_getf (q := 36) (jj := 13) 22 11 13 rfl kX11_87 c2 ?_
    refine PW.top (b := F x0 13) (by exact (congrFun (congrFun eF1 _) _).trans (pUp_k (by decide))) ?_
    refine s_iload_n (q := 37) 23 0 rfl rfl ?_
    refine s_dup2 (q := 38) 24 rfl ?_
    obtain ⟨c3, h⟩ := h
    obtain ⟨c4, h⟩ := h
    refine n_iald (q := 39) 25 rfl c3 c4 ?_
    refine s_iconst (q := 40) 26 rfl ?_
    obtain ⟨c5, h⟩ := h
    refine n_iadd (q := 41) 27 rfl c5 ?_
    obtain ⟨c6, h⟩ := h
    refine n_iast (q := 42) 28 rfl c6 c3 c4 ?_
    refine PW.nameE (fun E2 eE2 => ?_)
    replace h := h E2 eE2
    refine s_iload_n (q := 43) 29 2 rfl rfl ?_
    refine s_iret 30 rfl rfl ?_
    show PW l G 32 mX11_days bg 27 [(0, (2, x0)), (1, (0, x1)), (2, (0, x2))] [(0, (-1))] (n, K, F1, E2) Q
    exact s_iret 14 rfl rfl h
  · skip
    have b1 := hb
    replace h := h.2 hb
    refine s_iload_n (q := 5) 2 1 rfl rfl ?_
    refine s_ldcw (q := 8) (x := 1000000) 3 rfl kX11_313 ?_
    refine s_icmp_gt (q := 11) (tgt := 22) 4 rfl rfl (fun hb => ?_) (fun hb => ?_)
    · skip
      have b7 := hb
      replace h := h.1 hb
      refine s_aload_n (q := 23) 11 0 rfl rfl ?_
      refine s_iconst (q := 24) 12 rfl ?_
      obtain ⟨c8, h⟩ := h
      refine n_callV (N := mX11_refuse) (as := [(0, (-1))]) (st := []) (q := 27) (d' := 0) 13 rfl uX11_refuse kX11_114 rfl c8 ?_
      show PW l G 0 mX11_refuse (0, 0) 0 [(0, (2, x0)), (1, (0, (-1)))] [] (n, K, F, E) _
      refine s_aload_n (q := 1) 0 0 rfl rfl ?_
      refine s_iload_n (q := 2) 1 1 rfl rfl ?_
      refine n_putf (q := 5) (jj := 16) 2 11 16 rfl kX11_97 c8 (Or.inl rfl) ?_
      refine PW.nameF (fun F3 eF3 => ?_)
      replace h := h F3 eF3
      refine s_iload_n (q := 6) 3 1 rfl rfl ?_
      refine s_bipush (q := 8) 4 rfl ?_
      refine s_icmp_lt (q := 11) (tgt := 18) 5 rfl rfl (fun hb => absurd hb (by decide)) (fun _ => ?_)
      refine s_iload_n (q := 12) 6 1 rfl rfl ?_
      refine n_ineg (q := 13) 7 rfl (by decide) ?_
      refine PW.top (b := 1) (by decide) ?_
      refine s_iconst (q := 14) 8 rfl ?_
      refine n_isub (q := 15) 9 rfl (by decide) ?_
      refine PW.top (b := 0) (by decide) ?_
      refine s_goto (tgt := 22) 10 rfl rfl ?_
      refine s_istore_n (q := 23) (lv' := [(2, (0, 0)), (0, (2, x0)), (1, (0, (-1)))]) 15 rfl rfl ?_
      refine s_iload_n (q := 24) 16 0 rfl rfl ?_
      refine s_if_lt (q := 27) (tgt := 42) 17 rfl rfl (fun hb => absurd hb (by decide)) (fun _ => ?_)
      refine s_iload_n (q := 28) 18 0 rfl rfl ?_
      refine s_iconst (q := 29) 19 rfl ?_
      refine s_icmp_ge (q := 32) (tgt := 42) 20 rfl rfl (fun hb => absurd hb (by decide)) (fun _ => ?_)
      refine s_aload_n (q := 33) 21 1 rfl rfl ?_
      refine n_getf (q := 36) (jj := 13) 22 11 13 rfl kX11_87 c8 ?_
      refine PW.top (b := F x0 13) (by exact (congrFun (congrFun eF3 _) _).trans (pUp_k (by decide))) ?_
      refine s_iload_n (q := 37) 23 0 rfl rfl ?_
      refine s_dup2 (q := 38) 24 rfl ?_
      obtain ⟨c9, h⟩ := h
      obtain ⟨c10, h⟩ := h
      refine n_iald (q := 39) 25 rfl c9 c10 ?_
      refine s_iconst (q := 40) 26 rfl ?_
      obtain ⟨c11, h⟩ := h
      refine n_iadd (q := 41) 27 rfl c11 ?_
      obtain ⟨c12, h⟩ := h
      refine n_iast (q := 42) 28 rfl c12 c9 c10 ?_
      refine PW.nameE (fun E4 eE4 => ?_)
      replace h := h E4 eE4
      refine s_iload_n (q := 43) 29 2 rfl rfl ?_
      refine s_iret 30 rfl rfl ?_
      show PW l G 32 mX11_days bg 27 [(0, (2, x0)), (1, (0, x1)), (2, (0, x2))] [(0, (-1))] (n, K, F3, E4) Q
      exact s_iret 14 rfl rfl h
    · skip
      have b7 := hb
      replace h := h.2 hb
      refine s_iload_n (q := 12) 5 2 rfl rfl ?_
      refine s_iconst (q := 13) 6 rfl ?_
      refine s_icmp_lt (q := 16) (tgt := 22) 7 rfl rfl (fun hb => ?_) (fun hb => ?_)
      · skip
        have b13 := hb
        replace h := h.1 hb
        refine s_aload_n (q := 23) 11 0 rfl rfl ?_
        refine s_iconst (q := 24) 12 rfl ?_
        obtain ⟨c14, h⟩ := h
        refine n_callV (N := mX11_refuse) (as := [(0, (-1))]) (st := []) (q := 27) (d' := 0) 13 rfl uX11_refuse kX11_114 rfl c14 ?_
        show PW l G 0 mX11_refuse (0, 0) 0 [(0, (2, x0)), (1, (0, (-1)))] [] (n, K, F, E) _
        refine s_aload_n (q := 1) 0 0 rfl rfl ?_
        refine s_iload_n (q := 2) 1 1 rfl rfl ?_
        refine n_putf (q := 5) (jj := 16) 2 11 16 rfl kX11_97 c14 (Or.inl rfl) ?_
        refine PW.nameF (fun F5 eF5 => ?_)
        replace h := h F5 eF5
        refine s_iload_n (q := 6) 3 1 rfl rfl ?_
        refine s_bipush (q := 8) 4 rfl ?_
        refine s_icmp_lt (q := 11) (tgt := 18) 5 rfl rfl (fun hb => absurd hb (by decide)) (fun _ => ?_)
        refine s_iload_n (q := 12) 6 1 rfl rfl ?_
        refine n_ineg (q := 13) 7 rfl (by decide) ?_
        refine PW.top (b := 1) (by decide) ?_
        refine s_iconst (q := 14) 8 rfl ?_
        refine n_isub (q := 15) 9 rfl (by decide) ?_
        refine PW.top (b := 0) (by decide) ?_
        refine s_goto (tgt := 22) 10 rfl rfl ?_
        refine s_istore_n (q := 23) (lv' := [(2, (0, 0)), (0, (2, x0)), (1, (0, (-1)))]) 15 rfl rfl ?_
        refine s_iload_n (q := 24) 16 0 rfl rfl ?_
        refine s_if_lt (q := 27) (tgt := 42) 17 rfl rfl (fun hb => absurd hb (by decide)) (fun _ => ?_)
        refine s_iload_n (q := 28) 18 0 rfl rfl ?_
        refine s_iconst (q := 29) 19 rfl ?_
        refine s_icmp_ge (q := 32) (tgt := 42) 20 rfl rfl (fun hb => absurd hb (by decide)) (fun _ => ?_)
        refine s_aload_n (q := 33) 21 1 rfl rfl ?_
        refine n_getf (q := 36) (jj := 13) 22 11 13 rfl kX11_87 c14 ?_
        refine PW.top (b := F x0 13) (by exact (congrFun (congrFun eF5 _) _).trans (pUp_k (by decide))) ?_
        refine s_iload_n (q := 37) 23 0 rfl rfl ?_
        refine s_dup2 (q := 38) 24 rfl ?_
        obtain ⟨c15, h⟩ := h
        obtain ⟨c16, h⟩ := h
        refine n_iald (q := 39) 25 rfl c15 c16 ?_
        refine s_iconst (q := 40) 26 rfl ?_
        obtain ⟨c17, h⟩ := h
        refine n_iadd (q := 41) 27 rfl c17 ?_
        obtain ⟨c18, h⟩ := h
        refine n_iast (q := 42) 28 rfl c18 c15 c16 ?_
        refine PW.nameE (fun E6 eE6 => ?_)
        replace h := h E6 eE6
        refine s_iload_n (q := 43) 29 2 rfl rfl ?_
        refine s_iret 30 rfl rfl ?_
        show PW l G 32 mX11_days bg 27 [(0, (2, x0)), (1, (0, x1)), (2, (0, x2))] [(0, (-1))] (n, K, F5, E6) Q
        exact s_iret 14 rfl rfl h
      · skip
        have b13 := hb
        replace h := h.2 hb
        refine s_iload_n (q := 17) 8 2 rfl rfl ?_
        refine s_bipush (q := 19) 9 rfl ?_
        refine s_icmp_le (q := 22) (tgt := 28) 10 rfl rfl (fun hb => ?_) (fun hb => ?_)
        · skip
          have b19 := hb
          replace h := h.1 hb
          refine s_aload_n (q := 29) 15 0 rfl rfl ?_
          obtain ⟨c20, h⟩ := h
          refine n_getf (q := 32) (jj := 6) 16 11 6 rfl kX11_41 c20 ?_
          refine s_aload_n (q := 33) 17 0 rfl rfl ?_
          refine n_getf (q := 36) (jj := 0) 18 11 0 rfl kX11_10 c20 ?_
          obtain ⟨c21, h⟩ := h
          refine n_getf (q := 39) (jj := 0) 19 1 0 rfl kX11_125 c21 ?_
          obtain ⟨c22, h⟩ := h
          refine n_callV (N := mX0_copy) (as := [(2, F (F x0 0) 0)]) (st := []) (q := 42) (d' := 0) 20 rfl uX0_copy kX11_202 rfl c22 ?_
          show PW l G 0 mX0_copy (0, 0) 0 [(0, (2, F x0 6)), (1, (2, F (F x0 0) 0))] [] (n, K, F, E) _
          refine s_aload_n (q := 1) 0 1 rfl rfl ?_
          obtain ⟨c23, h⟩ := h
          refine n_getf (q := 4) (jj := 0) 1 0 0 rfl kX0_11 c23 ?_
          refine s_iconst (q := 5) 2 rfl ?_
          refine s_aload_n (q := 6) 3 0 rfl rfl ?_
          refine n_getf (q := 9) (jj := 0) 4 0 0 rfl kX0_11 c22 ?_
          refine s_iconst (q := 10) 5 rfl ?_
          refine s_bipush (q := 12) 6 rfl ?_
          obtain ⟨c24, h⟩ := h
          obtain ⟨c25, h⟩ := h
          obtain ⟨c26, h⟩ := h
          obtain ⟨c27, h⟩ := h
          obtain ⟨c28, h⟩ := h
          refine n_copy (q := 15) 7 rfl kX0_15 c24 c25 c26 c27 c28 ?_
          refine PW.nameE (fun E7 eE7 => ?_)
          replace h := h E7 eE7
          refine s_vret 8 rfl rfl ?_
          show PW l G 32 mX11_days bg 42 [(0, (2, x0)), (1, (0, x1)), (2, (0, x2))] [] (n, K, F, E7) Q
          refine s_aload_n (q := 43) 21 0 rfl rfl ?_
          refine s_iconst (q := 44) 22 rfl ?_
          refine n_putf (q := 47) (jj := 7) 23 11 7 rfl kX11_44 c20 (Or.inr (Or.inr (Or.inl ⟨rfl, (by decide)⟩))) ?_
          refine PW.nameF (fun F8 eF8 => ?_)
          replace h := h F8 eF8
          refine s_iload_n (q := 48) 24 1 rfl rfl ?_
          refine s_istore_n (q := 49) (lv' := [(3, (0, x1)), (0, (2, x0)), (1, (0, x1)), (2, (0, x2))]) 25 rfl rfl ?_
          refine s_iconst (q := 50) 26 rfl ?_
          refine s_istore (q := 52) (lv' := [(4, (0, 0)), (3, (0, x1)), (0, (2, x0)), (1, (0, x1)), (2, (0, x2))]) 27 rfl rfl ?_
          refine PW.pick [2, 4, 1, 0] rfl ?_
          exact h
        · skip
          have b19 := hb
          replace h := h.2 hb
          refine s_aload_n (q := 23) 11 0 rfl rfl ?_
          refine s_iconst (q := 24) 12 rfl ?_
          obtain ⟨c29, h⟩ := h
          refine n_callV (N := mX11_refuse) (as := [(0, (-1))]) (st := []) (q := 27) (d' := 0) 13 rfl uX11_refuse kX11_114 rfl c29 ?_
          show PW l G 0 mX11_refuse (0, 0) 0 [(0, (2, x0)), (1, (0, (-1)))] [] (n, K, F, E) _
          refine s_aload_n (q := 1) 0 0 rfl rfl ?_
          refine s_iload_n (q := 2) 1 1 rfl rfl ?_
          refine n_putf (q := 5) (jj := 16) 2 11 16 rfl kX11_97 c29 (Or.inl rfl) ?_
          refine PW.nameF (fun F9 eF9 => ?_)
          replace h := h F9 eF9
          refine s_iload_n (q := 6) 3 1 rfl rfl ?_
          refine s_bipush (q := 8) 4 rfl ?_
          refine s_icmp_lt (q := 11) (tgt := 18) 5 rfl rfl (fun hb => absurd hb (by decide)) (fun _ => ?_)
          refine s_iload_n (q := 12) 6 1 rfl rfl ?_
          refine n_ineg (q := 13) 7 rfl (by decide) ?_
          refine PW.top (b := 1) (by decide) ?_
          refine s_iconst (q := 14) 8 rfl ?_
          refine n_isub (q := 15) 9 rfl (by decide) ?_
          refine PW.top (b := 0) (by decide) ?_
          refine s_goto (tgt := 22) 10 rfl rfl ?_
          refine s_istore_n (q := 23) (lv' := [(2, (0, 0)), (0, (2, x0)), (1, (0, (-1)))]) 15 rfl rfl ?_
          refine s_iload_n (q := 24) 16 0 rfl rfl ?_
          refine s_if_lt (q := 27) (tgt := 42) 17 rfl rfl (fun hb => absurd hb (by decide)) (fun _ => ?_)
          refine s_iload_n (q := 28) 18 0 rfl rfl ?_
          refine s_iconst (q := 29) 19 rfl ?_
          refine s_icmp_ge (q := 32) (tgt := 42) 20 rfl rfl (fun hb => absurd hb (by decide)) (fun _ => ?_)
          refine s_aload_n (q := 33) 21 1 rfl rfl ?_
          refine n_getf (q := 36) (jj := 13) 22 11 13 rfl kX11_87 c29 ?_
          refine PW.top (b := F x0 13) (by exact (congrFun (congrFun eF9 _) _).trans (pUp_k (by decide))) ?_
          refine s_iload_n (q := 37) 23 0 rfl rfl ?_
          refine s_dup2 (q := 38) 24 rfl ?_
          obtain ⟨c30, h⟩ := h
          obtain ⟨c31, h⟩ := h
          refine n_iald (q := 39) 25 rfl c30 c31 ?_
          refine s_iconst (q := 40) 26 rfl ?_
          obtain ⟨c32, h⟩ := h
          refine n_iadd (q := 41) 27 rfl c32 ?_
          obtain ⟨c33, h⟩ := h
          refine n_iast (q := 42) 28 rfl c33 c30 c31 ?_
          refine PW.nameE (fun E10 eE10 => ?_)
          replace h := h E10 eE10
          refine s_iload_n (q := 43) 29 2 rfl rfl ?_
          refine s_iret 30 rfl rfl ?_
          show PW l G 32 mX11_days bg 27 [(0, (2, x0)), (1, (0, x1)), (2, (0, x2))] [(0, (-1))] (n, K, F9, E10) Q
          exact s_iret 14 rfl rfl h
theorem vX11_days_52 {l : Launch} {G : pG} {bg : Nat × Nat} {n : Nat} {K : Int → Nat × Nat} {F E : Int → Int → Int} {Q : Option pV → pM → Prop} (x0 x2 x3 x4 : Int) (h : ((x2 ≤ x4 → (K x0).1 = 11 ∧ (K (F x0 6)).1 = 0 ∧ (K (F (F x0 6) 0)).1 = 20 ∧ ((0 : Int) ≤ 2 ∧ 2 < ((K (F (F x0 6) 0)).2 : Int)) ∧ (K (F x0 0)).1 = 1 ∧ (K (F (F x0 0) 0)).1 = 0 ∧ (K (F (F (F x0 0) 0) 0)).1 = 20 ∧ ((0 : Int) ≤ 2 ∧ 2 < ((K (F (F (F x0 0) 0) 0)).2 : Int)) ∧ (-2147483648 ≤ (E (F (F x0 6) 0) 2) - (E (F (F (F x0 0) 0) 0) 2) ∧ (E (F (F x0 6) 0) 2) - (E (F (F (F x0 0) 0) 0) 2) < 2147483648) ∧ (∀ a1, a1 = (E (F (F x0 6) 0) 2) - (E (F (F (F x0 0) 0) 0) 2) → (∀ F2, F2 = pUp F x0 16 0 → Q (some (0, a1)) (n, K, F2, E)))) ∧ (¬ (x2 ≤ x4) → (-9223372036854775808 ≤ (w64 (x3 * 1103)) + 12345 ∧ (w64 (x3 * 1103)) + 12345 < 9223372036854775808) ∧ (-2147483648 ≤ ((w64 (x3 * 1103)) + 12345).tmod 1000003 ∧ ((w64 (x3 * 1103)) + 12345).tmod 1000003 < 2147483648) ∧ (∀ a3, a3 = (((w64 (x3 * 1103)) + 12345).tmod 1000003).tmod 3 → (∀ a4, a4 = w64 ((((w64 (x3 * 1103)) + 12345).tmod 1000003) * 1103) → (-9223372036854775808 ≤ a4 + 12345 ∧ a4 + 12345 < 9223372036854775808) ∧ (-2147483648 ≤ (a4 + 12345).tmod 1000003 ∧ (a4 + 12345).tmod 1000003 < 2147483648) ∧ (-9223372036854775808 ≤ (w64 (((a4 + 12345).tmod 1000003) * 1103)) + 12345 ∧ (w64 (((a4 + 12345).tmod 1000003) * 1103)) + 12345 < 9223372036854775808) ∧ (∀ a5, a5 = (w64 (((a4 + 12345).tmod 1000003) * 1103)) + 12345 → (-2147483648 ≤ a5.tmod 1000003 ∧ a5.tmod 1000003 < 2147483648) ∧ (-9223372036854775808 ≤ (w64 ((a5.tmod 1000003) * 1103)) + 12345 ∧ (w64 ((a5.tmod 1000003) * 1103)) + 12345 < 9223372036854775808) ∧ (∀ a6, a6 = ((w64 ((a5.tmod 1000003) * 1103)) + 12345).tmod 1000003 → (-2147483648 ≤ a6 ∧ a6 < 2147483648) ∧ ((7 ≤ a6.tmod 8 → (K x0).1 = 11 ∧ (-2147483648 ≤ (((a4 + 12345).tmod 1000003).tmod 4) + 2 ∧ (((a4 + 12345).tmod 1000003).tmod 4) + 2 < 2147483648) ∧ (K (F x0 6)).1 = 0 ∧ PC l G 1 mX0_setWindow (0, 0) [(2, F x0 6), (0, a3), (0, (((a4 + 12345).tmod 1000003).tmod 4) + 2)] (n, K, F, E) (fun r μ => PW l G 32 mX11_days bg 134 [(0, (2, x0)), (2, (0, x2)), (3, (0, a6)), (4, (0, x4))] (r.toList ++ []) μ Q)) ∧ (¬ (7 ≤ a6.tmod 8) → (K x0).1 = 11 ∧ PC l G 31 mX11_comeTo (0, 0) [(2, x0), (2, F x0 6), (2, (-1)), (0, a3), (0, ((a4 + 12345).tmod 1000003).tmod 4), (0, (a5.tmod 1000003).tmod 4)] (n, K, F, E) (fun r μ => PW l G 32 mX11_days bg 117 [(0, (2, x0)), (2, (0, x2)), (3, (0, a6)), (4, (0, x4))] (r.toList ++ []) μ Q)))))))))) : PW l G 32 mX11_days bg 52 [(0, (2, x0)), (2, (0, x2)), (3, (0, x3)), (4, (0, x4))] [] (n, K, F, E) Q := by
  refine s_iload (q := 54) 28 3 rfl rfl ?_
  refine s_iload_n (q := 55) 29 1 rfl rfl ?_
  refine s_icmp_ge (q := 58) (tgt := 141) 30 rfl rfl (fun hb => ?_) (fun hb => ?_)
  · skip
    have b1 := hb
    replace h := h.1 hb
    refine s_aload_n (q := 142) 80 0 rfl rfl ?_
    refine s_aload_n (q := 143) 81 0 rfl rfl ?_
    obtain ⟨c2, h⟩ := h
    refine n_getf (q := 146) (jj := 6) 82 11 6 rfl kX11_41 c2 ?_
    obtain ⟨c3, h⟩ := h
    refine n_callV (N := mX0_resultsEver) (as := []) (st := [(2, x0)]) (q := 149) (d' := 0) 83 rfl uX0_resultsEver kX11_320 rfl c3 ?_
    show PW l G 0 mX0_resultsEver (0, 0) 0 [(0, (2, F x0 6))] [] (n, K, F, E) _
    refine s_aload_n (q := 1) 0 0 rfl rfl ?_
    refine n_getf (q := 4) (jj := 0) 1 0 0 rfl kX0_11 c3 ?_
    refine s_iconst (q := 5) 2 rfl ?_
    obtain ⟨c4, h⟩ := h
    obtain ⟨c5, h⟩ := h
    refine n_iald (q := 6) 3 rfl c4 c5 ?_
    refine s_iret 4 rfl rfl ?_
    show PW l G 32 mX11_days bg 149 [(0, (2, x0)), (2, (0, x2)), (3, (0, x3)), (4, (0, x4))] [(0, E (F (F x0 6) 0) 2), (2, x0)] (n, K, F, E) Q
    refine s_aload_n (q := 150) 84 0 rfl rfl ?_
    refine n_getf (q := 153) (jj := 0) 85 11 0 rfl kX11_10 c2 ?_
    obtain ⟨c6, h⟩ := h
    refine n_getf (q := 156) (jj := 0) 86 1 0 rfl kX11_125 c6 ?_
    obtain ⟨c7, h⟩ := h
    refine n_callV (N := mX0_resultsEver) (as := []) (st := [(0, E (F (F x0 6) 0) 2), (2, x0)]) (q := 159) (d' := 0) 87 rfl uX0_resultsEver kX11_320 rfl c7 ?_
    show PW l G 0 mX0_resultsEver (0, 0) 0 [(0, (2, F (F x0 0) 0))] [] (n, K, F, E) _
    refine s_aload_n (q := 1) 0 0 rfl rfl ?_
    refine n_getf (q := 4) (jj := 0) 1 0 0 rfl kX0_11 c7 ?_
    refine s_iconst (q := 5) 2 rfl ?_
    obtain ⟨c8, h⟩ := h
    obtain ⟨c9, h⟩ := h
    refine n_iald (q := 6) 3 rfl c8 c9 ?_
    refine s_iret 4 rfl rfl ?_
    show PW l G 32 mX11_days bg 159 [(0, (2, x0)), (2, (0, x2)), (3, (0, x3)), (4, (0, x4))] [(0, E (F (F (F x0 0) 0) 0) 2), (0, E (F (F x0 6) 0) 2), (2, x0)] (n, K, F, E) Q
    obtain ⟨c10, h⟩ := h
    refine n_isub (q := 160) 88 rfl c10 ?_
    refine PW.name (fun a1 ea1 => ?_)
    replace h := h a1 ea1
    refine n_callV (N := mX11_accept) (as := [(0, a1)]) (st := []) (q := 163) (d' := 0) 89 rfl uX11_accept kX11_157 rfl c2 ?_
    show PW l G 0 mX11_accept (0, 0) 0 [(0, (2, x0)), (1, (0, a1))] [] (n, K, F, E) _
    refine s_aload_n (q := 1) 0 0 rfl rfl ?_
    refine s_iconst (q := 2) 1 rfl ?_
    refine n_putf (q := 5) (jj := 16) 2 11 16 rfl kX11_97 c2 (Or.inl rfl) ?_
    refine PW.nameF (fun F2 eF2 => ?_)
    replace h := h F2 eF2
    refine s_iload_n (q := 6) 3 1 rfl rfl ?_
    refine s_iret 4 rfl rfl ?_
    show PW l G 32 mX11_days bg 163 [(0, (2, x0)), (2, (0, x2)), (3, (0, x3)), (4, (0, x4))] [(0, a1)] (n, K, F2, E) Q
    exact s_iret 90 rfl rfl h
  · skip
    have b1 := hb
    replace h := h.2 hb
    refine s_iload_n (q := 59) 31 2 rfl rfl ?_
    refine n_callS (N := mX11_drawBehind) (as := [(0, x3)]) (st := []) (q := 62) (d' := 0) 32 rfl uX11_drawBehind kX11_314 rfl ?_
    show PW l G 0 mX11_drawBehind (0, 0) 0 [(0, (0, x3))] [] (n, K, F, E) _
    refine s_iload_n (q := 1) 0 0 rfl rfl ?_
    refine s_i2l (q := 2) 1 rfl ?_
    refine s_ldc2 (q := 5) (x := 1103) 2 rfl kX11_420 ?_
    refine s_lmul (q := 6) 3 rfl ?_
    refine s_ldc2 (q := 9) (x := 12345) 4 rfl kX11_422 ?_
    obtain ⟨c11, h⟩ := h
    refine n_ladd (q := 10) 5 rfl c11 ?_
    refine s_ldc2 (q := 13) (x := 1000003) 6 rfl kX11_424 ?_
    refine s_lrem (q := 14) 7 rfl (by decide) ?_
    obtain ⟨c12, h⟩ := h
    refine n_l2i (q := 15) 8 rfl c12 ?_
    refine s_iret 9 rfl rfl ?_
    show PW l G 32 mX11_days bg 62 [(0, (2, x0)), (2, (0, x2)), (3, (0, x3)), (4, (0, x4))] [(0, ((w64 (x3 * 1103)) + 12345).tmod 1000003)] (n, K, F, E) Q
    refine s_istore_n (q := 63) (lv' := [(3, (0, ((w64 (x3 * 1103)) + 12345).tmod 1000003)), (0, (2, x0)), (2, (0, x2)), (4, (0, x4))]) 33 rfl rfl ?_
    refine s_iload_n (q := 64) 34 0 rfl rfl ?_
    refine s_iconst (q := 65) 35 rfl ?_
    refine s_irem (q := 66) 36 rfl (by decide) ?_
    refine PW.name (fun a3 ea3 => ?_)
    replace h := h a3 ea3
    refine s_istore (q := 68) (lv' := [(5, (0, a3)), (3, (0, ((w64 (x3 * 1103)) + 12345).tmod 1000003)), (0, (2, x0)), (2, (0, x2)), (4, (0, x4))]) 37 rfl rfl ?_
    refine s_iload_n (q := 69) 38 1 rfl rfl ?_
    refine n_callS (N := mX11_drawBehind) (as := [(0, ((w64 (x3 * 1103)) + 12345).tmod 1000003)]) (st := []) (q := 72) (d' := 0) 39 rfl uX11_drawBehind kX11_314 rfl ?_
    show PW l G 0 mX11_drawBehind (0, 0) 0 [(0, (0, ((w64 (x3 * 1103)) + 12345).tmod 1000003))] [] (n, K, F, E) _
    refine s_iload_n (q := 1) 0 0 rfl rfl ?_
    refine s_i2l (q := 2) 1 rfl ?_
    refine s_ldc2 (q := 5) (x := 1103) 2 rfl kX11_420 ?_
    refine s_lmul (q := 6) 3 rfl ?_
    refine PW.name (fun a4 ea4 => ?_)
    replace h := h a4 ea4
    refine s_ldc2 (q := 9) (x := 12345) 4 rfl kX11_422 ?_
    obtain ⟨c13, h⟩ := h
    refine n_ladd (q := 10) 5 rfl c13 ?_
    refine s_ldc2 (q := 13) (x := 1000003) 6 rfl kX11_424 ?_
    refine s_lrem (q := 14) 7 rfl (by decide) ?_
    obtain ⟨c14, h⟩ := h
    refine n_l2i (q := 15) 8 rfl c14 ?_
    refine s_iret 9 rfl rfl ?_
    show PW l G 32 mX11_days bg 72 [(5, (0, a3)), (3, (0, ((w64 (x3 * 1103)) + 12345).tmod 1000003)), (0, (2, x0)), (2, (0, x2)), (4, (0, x4))] [(0, (a4 + 12345).tmod 1000003)] (n, K, F, E) Q
    refine s_istore_n (q := 73) (lv' := [(3, (0, (a4 + 12345).tmod 1000003)), (5, (0, a3)), (0, (2, x0)), (2, (0, x2)), (4, (0, x4))]) 40 rfl rfl ?_
    refine s_iload_n (q := 74) 41 0 rfl rfl ?_
    refine s_iconst (q := 75) 42 rfl ?_
    refine s_irem (q := 76) 43 rfl (by decide) ?_
    refine s_istore (q := 78) (lv' := [(6, (0, ((a4 + 12345).tmod 1000003).tmod 4)), (3, (0, (a4 + 12345).tmod 1000003)), (5, (0, a3)), (0, (2, x0)), (2, (0, x2)), (4, (0, x4))]) 44 rfl rfl ?_
    refine s_iload_n (q := 79) 45 1 rfl rfl ?_
    refine n_callS (N := mX11_drawBehind) (as := [(0, (a4 + 12345).tmod 1000003)]) (st := []) (q := 82) (d' := 0) 46 rfl uX11_drawBehind kX11_314 rfl ?_
    show PW l G 0 mX11_drawBehind (0, 0) 0 [(0, (0, (a4 + 12345).tmod 1000003))] [] (n, K, F, E) _
    refine s_iload_n (q := 1) 0 0 rfl rfl ?_
    refine s_i2l (q := 2) 1 rfl ?_
    refine s_ldc2 (q := 5) (x := 1103) 2 rfl kX11_420 ?_
    refine s_lmul (q := 6) 3 rfl ?_
    refine s_ldc2 (q := 9) (x := 12345) 4 rfl kX11_422 ?_
    obtain ⟨c15, h⟩ := h
    refine n_ladd (q := 10) 5 rfl c15 ?_
    refine PW.name (fun a5 ea5 => ?_)
    replace h := h a5 ea5
    refine s_ldc2 (q := 13) (x := 1000003) 6 rfl kX11_424 ?_
    refine s_lrem (q := 14) 7 rfl (by decide) ?_
    obtain ⟨c16, h⟩ := h
    refine n_l2i (q := 15) 8 rfl c16 ?_
    refine s_iret 9 rfl rfl ?_
    show PW l G 32 mX11_days bg 82 [(6, (0, ((a4 + 12345).tmod 1000003).tmod 4)), (3, (0, (a4 + 12345).tmod 1000003)), (5, (0, a3)), (0, (2, x0)), (2, (0, x2)), (4, (0, x4))] [(0, a5.tmod 1000003)] (n, K, F, E) Q
    refine s_istore_n (q := 83) (lv' := [(3, (0, a5.tmod 1000003)), (6, (0, ((a4 + 12345).tmod 1000003).tmod 4)), (5, (0, a3)), (0, (2, x0)), (2, (0, x2)), (4, (0, x4))]) 47 rfl rfl ?_
    refine s_iload_n (q := 84) 48 0 rfl rfl ?_
    refine s_iconst (q := 85) 49 rfl ?_
    refine s_irem (q := 86) 50 rfl (by decide) ?_
    refine s_istore (q := 88) (lv' := [(7, (0, (a5.tmod 1000003).tmod 4)), (3, (0, a5.tmod 1000003)), (6, (0, ((a4 + 12345).tmod 1000003).tmod 4)), (5, (0, a3)), (0, (2, x0)), (2, (0, x2)), (4, (0, x4))]) 51 rfl rfl ?_
    refine s_iload_n (q := 89) 52 1 rfl rfl ?_
    refine n_callS (N := mX11_drawBehind) (as := [(0, a5.tmod 1000003)]) (st := []) (q := 92) (d' := 0) 53 rfl uX11_drawBehind kX11_314 rfl ?_
    show PW l G 0 mX11_drawBehind (0, 0) 0 [(0, (0, a5.tmod 1000003))] [] (n, K, F, E) _
    refine s_iload_n (q := 1) 0 0 rfl rfl ?_
    refine s_i2l (q := 2) 1 rfl ?_
    refine s_ldc2 (q := 5) (x := 1103) 2 rfl kX11_420 ?_
    refine s_lmul (q := 6) 3 rfl ?_
    refine s_ldc2 (q := 9) (x := 12345) 4 rfl kX11_422 ?_
    obtain ⟨c17, h⟩ := h
    refine n_ladd (q := 10) 5 rfl c17 ?_
    refine s_ldc2 (q := 13) (x := 1000003) 6 rfl kX11_424 ?_
    refine s_lrem (q := 14) 7 rfl (by decide) ?_
    refine PW.name (fun a6 ea6 => ?_)
    replace h := h a6 ea6
    obtain ⟨c18, h⟩ := h
    refine n_l2i (q := 15) 8 rfl c18 ?_
    refine s_iret 9 rfl rfl ?_
    show PW l G 32 mX11_days bg 92 [(7, (0, (a5.tmod 1000003).tmod 4)), (3, (0, a5.tmod 1000003)), (6, (0, ((a4 + 12345).tmod 1000003).tmod 4)), (5, (0, a3)), (0, (2, x0)), (2, (0, x2)), (4, (0, x4))] [(0, a6)] (n, K, F, E) Q
    refine s_istore_n (q := 93) (lv' := [(3, (0, a6)), (7, (0, (a5.tmod 1000003).tmod 4)), (6, (0, ((a4 + 12345).tmod 1000003).tmod 4)), (5, (0, a3)), (0, (2, x0)), (2, (0, x2)), (4, (0, x4))]) 54 rfl rfl ?_
    refine s_iload_n (q := 94) 55 0 rfl rfl ?_
    refine s_bipush (q := 96) 56 rfl ?_
    refine s_irem (q := 97) 57 rfl (by decide) ?_
    refine s_bipush (q := 99) 58 rfl ?_
    refine s_icmp_ge (q := 102) (tgt := 121) 59 rfl rfl (fun hb => ?_) (fun hb => ?_)
    · skip
      have b19 := hb
      replace h := h.1 hb
      refine s_aload_n (q := 122) 70 4 rfl rfl ?_
      obtain ⟨c20, h⟩ := h
      refine n_getf (q := 125) (jj := 6) 71 11 6 rfl kX11_41 c20 ?_
      refine s_iload (q := 127) 72 3 rfl rfl ?_
      refine s_iload (q := 129) 73 2 rfl rfl ?_
      refine s_iconst (q := 130) 74 rfl ?_
      obtain ⟨c21, h⟩ := h
      refine n_iadd (q := 131) 75 rfl c21 ?_
      obtain ⟨c22, h⟩ := h
      refine PW.pick [4, 5, 0, 6] rfl ?_
      exact n_callV (N := mX0_setWindow) (as := [(0, a3), (0, (((a4 + 12345).tmod 1000003).tmod 4) + 2)]) (st := []) (q := 134) (d' := 1) 76 rfl uX0_setWindow kX11_317 rfl c22 h
    · skip
      have b19 := hb
      replace h := h.2 hb
      refine s_aload_n (q := 103) 60 4 rfl rfl ?_
      refine s_aload_n (q := 104) 61 4 rfl rfl ?_
      obtain ⟨c23, h⟩ := h
      refine n_getf (q := 107) (jj := 6) 62 11 6 rfl kX11_41 c23 ?_
      refine s_null (q := 108) 63 rfl ?_
      refine s_iload (q := 110) 64 3 rfl rfl ?_
      refine s_iload (q := 112) 65 2 rfl rfl ?_
      refine s_iload (q := 114) 66 1 rfl rfl ?_
      refine PW.pick [4, 5, 0, 6] rfl ?_
      exact n_callV (N := mX11_comeTo) (as := [(2, F x0 6), (2, (-1)), (0, a3), (0, ((a4 + 12345).tmod 1000003).tmod 4), (0, (a5.tmod 1000003).tmod 4)]) (st := []) (q := 117) (d' := 31) 67 rfl uX11_comeTo kX11_172 rfl c23 h
theorem vX11_days_117 {l : Launch} {G : pG} {bg : Nat × Nat} {n : Nat} {K : Int → Nat × Nat} {F E : Int → Int → Int} {Q : Option pV → pM → Prop} (x0 x2 x3 x4 s0 : Int) (h : (-2147483648 ≤ x4 + 1 ∧ x4 + 1 < 2147483648) ∧ PW l G 32 mX11_days bg 52 [(0, (2, x0)), (2, (0, x2)), (3, (0, x3)), (4, (0, x4 + 1))] [] (n, K, F, E) Q) : PW l G 32 mX11_days bg 117 [(0, (2, x0)), (2, (0, x2)), (3, (0, x3)), (4, (0, x4))] [(0, s0)] (n, K, F, E) Q := by
  refine s_pop (q := 118) 68 rfl ?_
  refine s_goto (tgt := 135) 69 rfl rfl ?_
  obtain ⟨c1, h⟩ := h
  refine n_iinc (q := 138) (lv' := [(4, (0, x4 + 1)), (0, (2, x0)), (2, (0, x2)), (3, (0, x3))]) 78 3 rfl rfl c1 rfl ?_
  refine s_goto (tgt := 52) 79 rfl rfl ?_
  refine PW.pick [1, 2, 3, 0] rfl ?_
  exact h
theorem vX11_days_134 {l : Launch} {G : pG} {bg : Nat × Nat} {n : Nat} {K : Int → Nat × Nat} {F E : Int → Int → Int} {Q : Option pV → pM → Prop} (x0 x2 x3 x4 s0 : Int) (h : (-2147483648 ≤ x4 + 1 ∧ x4 + 1 < 2147483648) ∧ PW l G 32 mX11_days bg 52 [(0, (2, x0)), (2, (0, x2)), (3, (0, x3)), (4, (0, x4 + 1))] [] (n, K, F, E) Q) : PW l G 32 mX11_days bg 134 [(0, (2, x0)), (2, (0, x2)), (3, (0, x3)), (4, (0, x4))] [(0, s0)] (n, K, F, E) Q := by
  refine s_pop (q := 135) 77 rfl ?_
  obtain ⟨c1, h⟩ := h
  refine n_iinc (q := 138) (lv' := [(4, (0, x4 + 1)), (0, (2, x0)), (2, (0, x2)), (3, (0, x3))]) 78 3 rfl rfl c1 rfl ?_
  refine s_goto (tgt := 52) 79 rfl rfl ?_
  refine PW.pick [1, 2, 3, 0] rfl ?_
  exact h
theorem vX11_drawn_0 {l : Launch} {G : pG} {bg : Nat × Nat} {n : Nat} {K : Int → Nat × Nat} {F E : Int → Int → Int} {Q : Option pV → pM → Prop} (x0 x1 x2 : Int) (h : (K x0).1 = 11 ∧ ((F x0 7 = 0 → ((F x0 7 = 0 → Q (some (0, (-1000))) (n, K, F, E)) ∧ (¬ (F x0 7 = 0) → ((¬ x2 = 1 → Q (some (0, (-1000))) (n, K, F, E)) ∧ (x2 = 1 → ((¬ (0 ≤ x1 ∧ x1 < 3) → Q (some (0, (-1000))) (n, K, F, E)) ∧ (0 ≤ x1 ∧ x1 < 3 → (K (F x0 6)).1 = 0 ∧ (-2147483648 ≤ 9 + x1 ∧ 9 + x1 < 2147483648) ∧ (K (F (F x0 6) 0)).1 = 20 ∧ ((0 : Int) ≤ 9 + x1 ∧ 9 + x1 < ((K (F (F x0 6) 0)).2 : Int)) ∧ Q (some (0, E (F (F x0 6) 0) (9 + x1))) (n, K, F, E)))))))) ∧ (¬ (F x0 7 = 0) → ((¬ x2 = 0 → ((F x0 7 = 0 → Q (some (0, (-1000))) (n, K, F, E)) ∧ (¬ (F x0 7 = 0) → ((¬ x2 = 1 → Q (some (0, (-1000))) (n, K, F, E)) ∧ (x2 = 1 → ((¬ (0 ≤ x1 ∧ x1 < 3) → Q (some (0, (-1000))) (n, K, F, E)) ∧ (0 ≤ x1 ∧ x1 < 3 → (K (F x0 6)).1 = 0 ∧ (-2147483648 ≤ 9 + x1 ∧ 9 + x1 < 2147483648) ∧ (K (F (F x0 6) 0)).1 = 20 ∧ ((0 : Int) ≤ 9 + x1 ∧ 9 + x1 < ((K (F (F x0 6) 0)).2 : Int)) ∧ Q (some (0, E (F (F x0 6) 0) (9 + x1))) (n, K, F, E)))))))) ∧ (x2 = 0 → (K (F x0 6)).1 = 0 ∧ (K (F (F x0 6) 0)).1 = 20 ∧ ((0 : Int) ≤ 0 ∧ 0 < ((K (F (F x0 6) 0)).2 : Int)) ∧ ((¬ (0 ≤ x1 ∧ x1 < E (F (F x0 6) 0) 0) → ((F x0 7 = 0 → Q (some (0, (-1000))) (n, K, F, E)) ∧ (¬ (F x0 7 = 0) → ((¬ x2 = 1 → Q (some (0, (-1000))) (n, K, F, E)) ∧ (x2 = 1 → ((¬ (0 ≤ x1 ∧ x1 < 3) → Q (some (0, (-1000))) (n, K, F, E)) ∧ (0 ≤ x1 ∧ x1 < 3 → (-2147483648 ≤ 9 + x1 ∧ 9 + x1 < 2147483648) ∧ ((0 : Int) ≤ 9 + x1 ∧ 9 + x1 < ((K (F (F x0 6) 0)).2 : Int)) ∧ Q (some (0, E (F (F x0 6) 0) (9 + x1))) (n, K, F, E)))))))) ∧ (0 ≤ x1 ∧ x1 < E (F (F x0 6) 0) 0 → (-2147483648 ≤ x1 * 6 ∧ x1 * 6 < 2147483648) ∧ (-2147483648 ≤ 12 + (x1 * 6) ∧ 12 + (x1 * 6) < 2147483648) ∧ (-2147483648 ≤ (12 + (x1 * 6)) + 5 ∧ (12 + (x1 * 6)) + 5 < 2147483648) ∧ ((0 : Int) ≤ (12 + (x1 * 6)) + 5 ∧ (12 + (x1 * 6)) + 5 < ((K (F (F x0 6) 0)).2 : Int)) ∧ Q (some (0, E (F (F x0 6) 0) ((12 + (x1 * 6)) + 5))) (n, K, F, E)))))))) : PW l G 1 mX11_drawn bg 0 [(0, (2, x0)), (1, (0, x1)), (2, (0, x2))] [] (n, K, F, E) Q := by
  refine s_aload_n (q := 1) 0 0 rfl rfl ?_
  obtain ⟨c1, h⟩ := h
  refine n_getf (q := 4) (jj := 7) 1 11 7 rfl kX11_44 c1 ?_
  refine s_if_eq (q := 7) (tgt := 32) 2 rfl rfl (fun hb => ?_) (fun hb => ?_)
  · skip
    have b2 := hb
    replace h := h.1 hb
    refine s_aload_n (q := 33) 16 0 rfl rfl ?_
    refine n_getf (q := 36) (jj := 7) 17 11 7 rfl kX11_44 c1 ?_
    refine s_if_eq (q := 39) (tgt := 60) 18 rfl rfl (fun hb => ?_) (fun hb => ?_)
    · skip
      have b3 := hb
      replace h := h.1 hb
      refine s_sipush (q := 63) 30 rfl ?_
      exact s_iret 31 rfl rfl h
    · skip
      have b3 := hb
      replace h := h.2 hb
      refine s_iload_n (q := 40) 19 2 rfl rfl ?_
      refine s_iconst (q := 41) 20 rfl ?_
      refine s_icmp_ne (q := 44) (tgt := 60) 21 rfl rfl (fun hb => ?_) (fun hb => ?_)
      · skip
        have b4 := hb
        replace h := h.1 hb
        refine s_sipush (q := 63) 30 rfl ?_
        exact s_iret 31 rfl rfl h
      · have hb := Classical.not_not.mp hb
        have b4 := hb
        replace h := h.2 hb
        refine s_iload_n (q := 45) 22 1 rfl rfl ?_
        refine n_callS (N := mX11_isRelation) (as := [(0, x1)]) (st := []) (q := 48) (d' := 0) 23 rfl uX11_isRelation kX11_107 rfl (pX11_isRelation ?_)
        show PW l G 1 mX11_drawn bg 48 [(0, (2, x0)), (1, (0, x1)), (2, (0, x2))] [(0, bI (0 ≤ x1 ∧ x1 < 3))] (n, K, F, E) Q
        refine s_if_eq (q := 51) (tgt := 60) 24 rfl rfl (fun hb => ?_) (fun hb => ?_)
        · have hb := bI_f hb
          have b5 := hb
          replace h := h.1 hb
          refine s_sipush (q := 63) 30 rfl ?_
          exact s_iret 31 rfl rfl h
        · have hb := bI_t hb
          have b5 := hb
          replace h := h.2 hb
          refine s_aload_n (q := 52) 25 0 rfl rfl ?_
          refine n_getf (q := 55) (jj := 6) 26 11 6 rfl kX11_41 c1 ?_
          refine s_iload_n (q := 56) 27 1 rfl rfl ?_
          obtain ⟨c6, h⟩ := h
          refine n_callV (N := mX0_held) (as := [(0, x1)]) (st := []) (q := 59) (d' := 0) 28 rfl uX0_held kX11_141 rfl c6 ?_
          show PW l G 0 mX0_held (0, 0) 0 [(0, (2, F x0 6)), (1, (0, x1))] [] (n, K, F, E) _
          refine s_aload_n (q := 1) 0 0 rfl rfl ?_
          refine n_getf (q := 4) (jj := 0) 1 0 0 rfl kX0_11 c6 ?_
          refine s_bipush (q := 6) 2 rfl ?_
          refine s_iload_n (q := 7) 3 1 rfl rfl ?_
          obtain ⟨c7, h⟩ := h
          refine n_iadd (q := 8) 4 rfl c7 ?_
          obtain ⟨c8, h⟩ := h
          obtain ⟨c9, h⟩ := h
          refine n_iald (q := 9) 5 rfl c8 c9 ?_
          refine s_iret 6 rfl rfl ?_
          show PW l G 1 mX11_drawn bg 59 [(0, (2, x0)), (1, (0, x1)), (2, (0, x2))] [(0, E (F (F x0 6) 0) (9 + x1))] (n, K, F, E) Q
          exact s_iret 29 rfl rfl h
  · skip
    have b2 := hb
    replace h := h.2 hb
    refine s_iload_n (q := 8) 3 2 rfl rfl ?_
    refine s_if_ne (q := 11) (tgt := 32) 4 rfl rfl (fun hb => ?_) (fun hb => ?_)
    · skip
      have b10 := hb
      replace h := h.1 hb
      refine s_aload_n (q := 33) 16 0 rfl rfl ?_
      refine n_getf (q := 36) (jj := 7) 17 11 7 rfl kX11_44 c1 ?_
      refine s_if_eq (q := 39) (tgt := 60) 18 rfl rfl (fun hb => ?_) (fun hb => ?_)
      · skip
        have b11 := hb
        replace h := h.1 hb
        refine s_sipush (q := 63) 30 rfl ?_
        exact s_iret 31 rfl rfl h
      · skip
        have b11 := hb
        replace h := h.2 hb
        refine s_iload_n (q := 40) 19 2 rfl rfl ?_
        refine s_iconst (q := 41) 20 rfl ?_
        refine s_icmp_ne (q := 44) (tgt := 60) 21 rfl rfl (fun hb => ?_) (fun hb => ?_)
        · skip
          have b12 := hb
          replace h := h.1 hb
          refine s_sipush (q := 63) 30 rfl ?_
          exact s_iret 31 rfl rfl h
        · have hb := Classical.not_not.mp hb
          have b12 := hb
          replace h := h.2 hb
          refine s_iload_n (q := 45) 22 1 rfl rfl ?_
          refine n_callS (N := mX11_isRelation) (as := [(0, x1)]) (st := []) (q := 48) (d' := 0) 23 rfl uX11_isRelation kX11_107 rfl (pX11_isRelation ?_)
          show PW l G 1 mX11_drawn bg 48 [(0, (2, x0)), (1, (0, x1)), (2, (0, x2))] [(0, bI (0 ≤ x1 ∧ x1 < 3))] (n, K, F, E) Q
          refine s_if_eq (q := 51) (tgt := 60) 24 rfl rfl (fun hb => ?_) (fun hb => ?_)
          · have hb := bI_f hb
            have b13 := hb
            replace h := h.1 hb
            refine s_sipush (q := 63) 30 rfl ?_
            exact s_iret 31 rfl rfl h
          · have hb := bI_t hb
            have b13 := hb
            replace h := h.2 hb
            refine s_aload_n (q := 52) 25 0 rfl rfl ?_
            refine n_getf (q := 55) (jj := 6) 26 11 6 rfl kX11_41 c1 ?_
            refine s_iload_n (q := 56) 27 1 rfl rfl ?_
            obtain ⟨c14, h⟩ := h
            refine n_callV (N := mX0_held) (as := [(0, x1)]) (st := []) (q := 59) (d' := 0) 28 rfl uX0_held kX11_141 rfl c14 ?_
            show PW l G 0 mX0_held (0, 0) 0 [(0, (2, F x0 6)), (1, (0, x1))] [] (n, K, F, E) _
            refine s_aload_n (q := 1) 0 0 rfl rfl ?_
            refine n_getf (q := 4) (jj := 0) 1 0 0 rfl kX0_11 c14 ?_
            refine s_bipush (q := 6) 2 rfl ?_
            refine s_iload_n (q := 7) 3 1 rfl rfl ?_
            obtain ⟨c15, h⟩ := h
            refine n_iadd (q := 8) 4 rfl c15 ?_
            obtain ⟨c16, h⟩ := h
            obtain ⟨c17, h⟩ := h
            refine n_iald (q := 9) 5 rfl c16 c17 ?_
            refine s_iret 6 rfl rfl ?_
            show PW l G 1 mX11_drawn bg 59 [(0, (2, x0)), (1, (0, x1)), (2, (0, x2))] [(0, E (F (F x0 6) 0) (9 + x1))] (n, K, F, E) Q
            exact s_iret 29 rfl rfl h
    · have hb := Classical.not_not.mp hb
      have b10 := hb
      replace h := h.2 hb
      refine s_aload_n (q := 12) 5 0 rfl rfl ?_
      refine n_getf (q := 15) (jj := 6) 6 11 6 rfl kX11_41 c1 ?_
      refine s_iload_n (q := 16) 7 1 rfl rfl ?_
      obtain ⟨c18, h⟩ := h
      obtain ⟨c19, h⟩ := h
      obtain ⟨c20, h⟩ := h
      refine n_callV (N := mX0_hasOperator) (as := [(0, x1)]) (st := []) (q := 19) (d' := 0) 8 rfl uX0_hasOperator kX11_128 rfl c18 (pX0_hasOperator c18 c19 c20 ?_)
      show PW l G 1 mX11_drawn bg 19 [(0, (2, x0)), (1, (0, x1)), (2, (0, x2))] [(0, bI (0 ≤ x1 ∧ x1 < E (F (F x0 6) 0) 0))] (n, K, F, E) Q
      refine s_if_eq (q := 22) (tgt := 32) 9 rfl rfl (fun hb => ?_) (fun hb => ?_)
      · have hb := bI_f hb
        have b21 := hb
        replace h := h.1 hb
        refine s_aload_n (q := 33) 16 0 rfl rfl ?_
        refine n_getf (q := 36) (jj := 7) 17 11 7 rfl kX11_44 c1 ?_
        refine s_if_eq (q := 39) (tgt := 60) 18 rfl rfl (fun hb => ?_) (fun hb => ?_)
        · skip
          have b22 := hb
          replace h := h.1 hb
          refine s_sipush (q := 63) 30 rfl ?_
          exact s_iret 31 rfl rfl h
        · skip
          have b22 := hb
          replace h := h.2 hb
          refine s_iload_n (q := 40) 19 2 rfl rfl ?_
          refine s_iconst (q := 41) 20 rfl ?_
          refine s_icmp_ne (q := 44) (tgt := 60) 21 rfl rfl (fun hb => ?_) (fun hb => ?_)
          · skip
            have b23 := hb
            replace h := h.1 hb
            refine s_sipush (q := 63) 30 rfl ?_
            exact s_iret 31 rfl rfl h
          · have hb := Classical.not_not.mp hb
            have b23 := hb
            replace h := h.2 hb
            refine s_iload_n (q := 45) 22 1 rfl rfl ?_
            refine n_callS (N := mX11_isRelation) (as := [(0, x1)]) (st := []) (q := 48) (d' := 0) 23 rfl uX11_isRelation kX11_107 rfl (pX11_isRelation ?_)
            show PW l G 1 mX11_drawn bg 48 [(0, (2, x0)), (1, (0, x1)), (2, (0, x2))] [(0, bI (0 ≤ x1 ∧ x1 < 3))] (n, K, F, E) Q
            refine s_if_eq (q := 51) (tgt := 60) 24 rfl rfl (fun hb => ?_) (fun hb => ?_)
            · have hb := bI_f hb
              have b24 := hb
              replace h := h.1 hb
              refine s_sipush (q := 63) 30 rfl ?_
              exact s_iret 31 rfl rfl h
            · have hb := bI_t hb
              have b24 := hb
              replace h := h.2 hb
              refine s_aload_n (q := 52) 25 0 rfl rfl ?_
              refine n_getf (q := 55) (jj := 6) 26 11 6 rfl kX11_41 c1 ?_
              refine s_iload_n (q := 56) 27 1 rfl rfl ?_
              refine n_callV (N := mX0_held) (as := [(0, x1)]) (st := []) (q := 59) (d' := 0) 28 rfl uX0_held kX11_141 rfl c18 ?_
              show PW l G 0 mX0_held (0, 0) 0 [(0, (2, F x0 6)), (1, (0, x1))] [] (n, K, F, E) _
              refine s_aload_n (q := 1) 0 0 rfl rfl ?_
              refine n_getf (q := 4) (jj := 0) 1 0 0 rfl kX0_11 c18 ?_
              refine s_bipush (q := 6) 2 rfl ?_
              refine s_iload_n (q := 7) 3 1 rfl rfl ?_
              obtain ⟨c25, h⟩ := h
              refine n_iadd (q := 8) 4 rfl c25 ?_
              obtain ⟨c26, h⟩ := h
              refine n_iald (q := 9) 5 rfl c19 c26 ?_
              refine s_iret 6 rfl rfl ?_
              show PW l G 1 mX11_drawn bg 59 [(0, (2, x0)), (1, (0, x1)), (2, (0, x2))] [(0, E (F (F x0 6) 0) (9 + x1))] (n, K, F, E) Q
              exact s_iret 29 rfl rfl h
      · have hb := bI_t hb
        have b21 := hb
        replace h := h.2 hb
        refine s_aload_n (q := 23) 10 0 rfl rfl ?_
        refine n_getf (q := 26) (jj := 6) 11 11 6 rfl kX11_41 c1 ?_
        refine s_iload_n (q := 27) 12 1 rfl rfl ?_
        refine s_iconst (q := 28) 13 rfl ?_
        refine n_callV (N := mX0_part) (as := [(0, x1), (0, 5)]) (st := []) (q := 31) (d' := 0) 14 rfl uX0_part kX11_131 rfl c18 ?_
        show PW l G 0 mX0_part (0, 0) 0 [(0, (2, F x0 6)), (1, (0, x1)), (2, (0, 5))] [] (n, K, F, E) _
        refine s_aload_n (q := 1) 0 0 rfl rfl ?_
        refine n_getf (q := 4) (jj := 0) 1 0 0 rfl kX0_11 c18 ?_
        refine s_bipush (q := 6) 2 rfl ?_
        refine s_iload_n (q := 7) 3 1 rfl rfl ?_
        refine s_bipush (q := 9) 4 rfl ?_
        obtain ⟨c27, h⟩ := h
        refine n_imul (q := 10) 5 rfl c27 ?_
        obtain ⟨c28, h⟩ := h
        refine n_iadd (q := 11) 6 rfl c28 ?_
        refine s_iload_n (q := 12) 7 2 rfl rfl ?_
        obtain ⟨c29, h⟩ := h
        refine n_iadd (q := 13) 8 rfl c29 ?_
        obtain ⟨c30, h⟩ := h
        refine n_iald (q := 14) 9 rfl c19 c30 ?_
        refine s_iret 10 rfl rfl ?_
        show PW l G 1 mX11_drawn bg 31 [(0, (2, x0)), (1, (0, x1)), (2, (0, x2))] [(0, E (F (F x0 6) 0) ((12 + (x1 * 6)) + 5))] (n, K, F, E) Q
        exact s_iret 15 rfl rfl h
theorem vX11_image_0 {l : Launch} {G : pG} {bg : Nat × Nat} {n : Nat} {K : Int → Nat × Nat} {F E : Int → Int → Int} {Q : Option pV → pM → Prop} (x0 x1 : Int) (h : ((x1 < 0 → (K x0).1 = 11 ∧ (∀ F1, F1 = pUp F x0 16 (-1) → (K (F x0 13)).1 = 20 ∧ ((0 : Int) ≤ 0 ∧ 0 < ((K (F x0 13)).2 : Int)) ∧ (-2147483648 ≤ (E (F x0 13) 0) + 1 ∧ (E (F x0 13) 0) + 1 < 2147483648) ∧ (0 : Int) ≤ F x0 13 ∧ (∀ E2, E2 = pUp E (F x0 13) 0 ((E (F x0 13) 0) + 1) → Q (some (0, (-1))) (n, K, F1, E2)))) ∧ (¬ (x1 < 0) → ((x1 < 2 → (K x0).1 = 11 ∧ (0 : Int) ≤ F x0 1 ∧ (K (F x0 1)).1 = 24 ∧ ((0 : Int) ≤ x1 ∧ x1 < ((K (F x0 1)).2 : Int)) ∧ (K (E (F x0 1) x1)).1 = 1 ∧ PC l G 1 mX1_copy (0, 0) [(2, E (F x0 1) x1), (2, F x0 0)] (n, K, F, E) (fun r μ => PW l G 2 mX11_image bg 28 [(0, (2, x0)), (1, (0, x1))] (r.toList ++ []) μ Q)) ∧ (¬ (x1 < 2) → (K x0).1 = 11 ∧ (∀ F3, F3 = pUp F x0 16 (-1) → (K (F x0 13)).1 = 20 ∧ ((0 : Int) ≤ 0 ∧ 0 < ((K (F x0 13)).2 : Int)) ∧ (-2147483648 ≤ (E (F x0 13) 0) + 1 ∧ (E (F x0 13) 0) + 1 < 2147483648) ∧ (0 : Int) ≤ F x0 13 ∧ (∀ E4, E4 = pUp E (F x0 13) 0 ((E (F x0 13) 0) + 1) → Q (some (0, (-1))) (n, K, F3, E4)))))))) : PW l G 2 mX11_image bg 0 [(0, (2, x0)), (1, (0, x1))] [] (n, K, F, E) Q := by
  refine s_iload_n (q := 1) 0 1 rfl rfl ?_
  refine s_if_lt (q := 4) (tgt := 9) 1 rfl rfl (fun hb => ?_) (fun hb => ?_)
  · skip
    have b1 := hb
    replace h := h.1 hb
    refine s_aload_n (q := 10) 5 0 rfl rfl ?_
    refine s_iconst (q := 11) 6 rfl ?_
    obtain ⟨c2, h⟩ := h
    refine n_callV (N := mX11_refuse) (as := [(0, (-1))]) (st := []) (q := 14) (d' := 0) 7 rfl uX11_refuse kX11_114 rfl c2 ?_
    show PW l G 0 mX11_refuse (0, 0) 0 [(0, (2, x0)), (1, (0, (-1)))] [] (n, K, F, E) _
    refine s_aload_n (q := 1) 0 0 rfl rfl ?_
    refine s_iload_n (q := 2) 1 1 rfl rfl ?_
    refine n_putf (q := 5) (jj := 16) 2 11 16 rfl kX11_97 c2 (Or.inl rfl) ?_
    refine PW.nameF (fun F1 eF1 => ?_)
    replace h := h F1 eF1
    refine s_iload_n (q := 6) 3 1 rfl rfl ?_
    refine s_bipush (q := 8) 4 rfl ?_
    refine s_icmp_lt (q := 11) (tgt := 18) 5 rfl rfl (fun hb => absurd hb (by decide)) (fun _ => ?_)
    refine s_iload_n (q := 12) 6 1 rfl rfl ?_
    refine n_ineg (q := 13) 7 rfl (by decide) ?_
    refine PW.top (b := 1) (by decide) ?_
    refine s_iconst (q := 14) 8 rfl ?_
    refine n_isub (q := 15) 9 rfl (by decide) ?_
    refine PW.top (b := 0) (by decide) ?_
    refine s_goto (tgt := 22) 10 rfl rfl ?_
    refine s_istore_n (q := 23) (lv' := [(2, (0, 0)), (0, (2, x0)), (1, (0, (-1)))]) 15 rfl rfl ?_
    refine s_iload_n (q := 24) 16 0 rfl rfl ?_
    refine s_if_lt (q := 27) (tgt := 42) 17 rfl rfl (fun hb => absurd hb (by decide)) (fun _ => ?_)
    refine s_iload_n (q := 28) 18 0 rfl rfl ?_
    refine s_iconst (q := 29) 19 rfl ?_
    refine s_icmp_ge (q := 32) (tgt := 42) 20 rfl rfl (fun hb => absurd hb (by decide)) (fun _ => ?_)
    refine s_aload_n (q := 33) 21 1 rfl rfl ?_
    refine n_getf (q := 36) (jj := 13) 22 11 13 rfl kX11_87 c2 ?_
    refine PW.top (b := F x0 13) (by exact (congrFun (congrFun eF1 _) _).trans (pUp_k (by decide))) ?_
    refine s_iload_n (q := 37) 23 0 rfl rfl ?_
    refine s_dup2 (q := 38) 24 rfl ?_
    obtain ⟨c3, h⟩ := h
    obtain ⟨c4, h⟩ := h
    refine n_iald (q := 39) 25 rfl c3 c4 ?_
    refine s_iconst (q := 40) 26 rfl ?_
    obtain ⟨c5, h⟩ := h
    refine n_iadd (q := 41) 27 rfl c5 ?_
    obtain ⟨c6, h⟩ := h
    refine n_iast (q := 42) 28 rfl c6 c3 c4 ?_
    refine PW.nameE (fun E2 eE2 => ?_)
    replace h := h E2 eE2
    refine s_iload_n (q := 43) 29 2 rfl rfl ?_
    refine s_iret 30 rfl rfl ?_
    show PW l G 2 mX11_image bg 14 [(0, (2, x0)), (1, (0, x1))] [(0, (-1))] (n, K, F1, E2) Q
    exact s_iret 8 rfl rfl h
  · skip
    have b1 := hb
    replace h := h.2 hb
    refine s_iload_n (q := 5) 2 1 rfl rfl ?_
    refine s_iconst (q := 6) 3 rfl ?_
    refine s_icmp_lt (q := 9) (tgt := 15) 4 rfl rfl (fun hb => ?_) (fun hb => ?_)
    · skip
      have b7 := hb
      replace h := h.1 hb
      refine s_aload_n (q := 16) 9 0 rfl rfl ?_
      obtain ⟨c8, h⟩ := h
      refine n_getf (q := 19) (jj := 1) 10 11 1 rfl kX11_16 c8 ?_
      refine s_iload_n (q := 20) 11 1 rfl rfl ?_
      obtain ⟨c9, h⟩ := h
      obtain ⟨c10, h⟩ := h
      obtain ⟨c11, h⟩ := h
      refine n_aald (q := 21) 12 4 rfl c9 c10 c11 ?_
      refine s_aload_n (q := 22) 13 0 rfl rfl ?_
      refine n_getf (q := 25) (jj := 0) 14 11 0 rfl kX11_10 c8 ?_
      obtain ⟨c12, h⟩ := h
      refine PW.pick [0, 1] rfl ?_
      exact n_callV (N := mX1_copy) (as := [(2, F x0 0)]) (st := []) (q := 28) (d' := 1) 15 rfl uX1_copy kX11_323 rfl c12 h
    · skip
      have b7 := hb
      replace h := h.2 hb
      refine s_aload_n (q := 10) 5 0 rfl rfl ?_
      refine s_iconst (q := 11) 6 rfl ?_
      obtain ⟨c13, h⟩ := h
      refine n_callV (N := mX11_refuse) (as := [(0, (-1))]) (st := []) (q := 14) (d' := 0) 7 rfl uX11_refuse kX11_114 rfl c13 ?_
      show PW l G 0 mX11_refuse (0, 0) 0 [(0, (2, x0)), (1, (0, (-1)))] [] (n, K, F, E) _
      refine s_aload_n (q := 1) 0 0 rfl rfl ?_
      refine s_iload_n (q := 2) 1 1 rfl rfl ?_
      refine n_putf (q := 5) (jj := 16) 2 11 16 rfl kX11_97 c13 (Or.inl rfl) ?_
      refine PW.nameF (fun F3 eF3 => ?_)
      replace h := h F3 eF3
      refine s_iload_n (q := 6) 3 1 rfl rfl ?_
      refine s_bipush (q := 8) 4 rfl ?_
      refine s_icmp_lt (q := 11) (tgt := 18) 5 rfl rfl (fun hb => absurd hb (by decide)) (fun _ => ?_)
      refine s_iload_n (q := 12) 6 1 rfl rfl ?_
      refine n_ineg (q := 13) 7 rfl (by decide) ?_
      refine PW.top (b := 1) (by decide) ?_
      refine s_iconst (q := 14) 8 rfl ?_
      refine n_isub (q := 15) 9 rfl (by decide) ?_
      refine PW.top (b := 0) (by decide) ?_
      refine s_goto (tgt := 22) 10 rfl rfl ?_
      refine s_istore_n (q := 23) (lv' := [(2, (0, 0)), (0, (2, x0)), (1, (0, (-1)))]) 15 rfl rfl ?_
      refine s_iload_n (q := 24) 16 0 rfl rfl ?_
      refine s_if_lt (q := 27) (tgt := 42) 17 rfl rfl (fun hb => absurd hb (by decide)) (fun _ => ?_)
      refine s_iload_n (q := 28) 18 0 rfl rfl ?_
      refine s_iconst (q := 29) 19 rfl ?_
      refine s_icmp_ge (q := 32) (tgt := 42) 20 rfl rfl (fun hb => absurd hb (by decide)) (fun _ => ?_)
      refine s_aload_n (q := 33) 21 1 rfl rfl ?_
      refine n_getf (q := 36) (jj := 13) 22 11 13 rfl kX11_87 c13 ?_
      refine PW.top (b := F x0 13) (by exact (congrFun (congrFun eF3 _) _).trans (pUp_k (by decide))) ?_
      refine s_iload_n (q := 37) 23 0 rfl rfl ?_
      refine s_dup2 (q := 38) 24 rfl ?_
      obtain ⟨c14, h⟩ := h
      obtain ⟨c15, h⟩ := h
      refine n_iald (q := 39) 25 rfl c14 c15 ?_
      refine s_iconst (q := 40) 26 rfl ?_
      obtain ⟨c16, h⟩ := h
      refine n_iadd (q := 41) 27 rfl c16 ?_
      obtain ⟨c17, h⟩ := h
      refine n_iast (q := 42) 28 rfl c17 c14 c15 ?_
      refine PW.nameE (fun E4 eE4 => ?_)
      replace h := h E4 eE4
      refine s_iload_n (q := 43) 29 2 rfl rfl ?_
      refine s_iret 30 rfl rfl ?_
      show PW l G 2 mX11_image bg 14 [(0, (2, x0)), (1, (0, x1))] [(0, (-1))] (n, K, F3, E4) Q
      exact s_iret 8 rfl rfl h
theorem vX11_image_28 {l : Launch} {G : pG} {bg : Nat × Nat} {n : Nat} {K : Int → Nat × Nat} {F E : Int → Int → Int} {Q : Option pV → pM → Prop} (x0 x1 : Int) (h : (K x0).1 = 11 ∧ (0 : Int) ≤ F x0 2 ∧ (K (F x0 2)).1 = 23 ∧ ((0 : Int) ≤ x1 ∧ x1 < ((K (F x0 2)).2 : Int)) ∧ (∀ E1, E1 = pUp E (F x0 2) x1 1 → (∀ F2, F2 = pUp F x0 16 0 → Q (some (0, 0)) (n, K, F2, E1)))) : PW l G 2 mX11_image bg 28 [(0, (2, x0)), (1, (0, x1))] [] (n, K, F, E) Q := by
  refine s_aload_n (q := 29) 16 0 rfl rfl ?_
  obtain ⟨c1, h⟩ := h
  refine n_getf (q := 32) (jj := 2) 17 11 2 rfl kX11_20 c1 ?_
  refine s_iload_n (q := 33) 18 1 rfl rfl ?_
  refine s_iconst (q := 34) 19 rfl ?_
  obtain ⟨c2, h⟩ := h
  obtain ⟨c3, h⟩ := h
  obtain ⟨c4, h⟩ := h
  refine n_zast (q := 35) 20 rfl c2 c3 c4 (by decide) ?_
  refine PW.nameE (fun E1 eE1 => ?_)
  replace h := h E1 eE1
  refine s_aload_n (q := 36) 21 0 rfl rfl ?_
  refine s_iconst (q := 37) 22 rfl ?_
  refine n_callV (N := mX11_accept) (as := [(0, 0)]) (st := []) (q := 40) (d' := 0) 23 rfl uX11_accept kX11_157 rfl c1 ?_
  show PW l G 0 mX11_accept (0, 0) 0 [(0, (2, x0)), (1, (0, 0))] [] (n, K, F, E1) _
  refine s_aload_n (q := 1) 0 0 rfl rfl ?_
  refine s_iconst (q := 2) 1 rfl ?_
  refine n_putf (q := 5) (jj := 16) 2 11 16 rfl kX11_97 c1 (Or.inl rfl) ?_
  refine PW.nameF (fun F2 eF2 => ?_)
  replace h := h F2 eF2
  refine s_iload_n (q := 6) 3 1 rfl rfl ?_
  refine s_iret 4 rfl rfl ?_
  show PW l G 2 mX11_image bg 40 [(0, (2, x0)), (1, (0, x1))] [(0, 0)] (n, K, F2, E1) Q
  exact s_iret 24 rfl rfl h
theorem vX11_back_0 {l : Launch} {G : pG} {bg : Nat × Nat} {n : Nat} {K : Int → Nat × Nat} {F E : Int → Int → Int} {Q : Option pV → pM → Prop} (x0 x1 : Int) (h : ((x1 < 0 → (K x0).1 = 11 ∧ (∀ F1, F1 = pUp F x0 16 (-1) → (K (F x0 13)).1 = 20 ∧ ((0 : Int) ≤ 0 ∧ 0 < ((K (F x0 13)).2 : Int)) ∧ (-2147483648 ≤ (E (F x0 13) 0) + 1 ∧ (E (F x0 13) 0) + 1 < 2147483648) ∧ (0 : Int) ≤ F x0 13 ∧ (∀ E2, E2 = pUp E (F x0 13) 0 ((E (F x0 13) 0) + 1) → Q (some (0, (-1))) (n, K, F1, E2)))) ∧ (¬ (x1 < 0) → ((x1 < 2 → (K x0).1 = 11 ∧ (0 : Int) ≤ F x0 2 ∧ (K (F x0 2)).1 = 23 ∧ ((0 : Int) ≤ x1 ∧ x1 < ((K (F x0 2)).2 : Int)) ∧ ((¬ (E (F x0 2) x1) = 0 → (0 : Int) ≤ F x0 1 ∧ (K (F x0 1)).1 = 24 ∧ ((0 : Int) ≤ x1 ∧ x1 < ((K (F x0 1)).2 : Int)) ∧ (K (F x0 0)).1 = 1 ∧ PC l G 1 mX1_copy (0, 0) [(2, F x0 0), (2, E (F x0 1) x1)] (n, K, F, E) (fun r μ => PW l G 2 mX11_back bg 44 [(0, (2, x0))] (r.toList ++ []) μ Q)) ∧ ((E (F x0 2) x1) = 0 → (∀ F3, F3 = pUp F x0 16 (-2) → (K (F x0 13)).1 = 20 ∧ ((0 : Int) ≤ 1 ∧ 1 < ((K (F x0 13)).2 : Int)) ∧ (-2147483648 ≤ (E (F x0 13) 1) + 1 ∧ (E (F x0 13) 1) + 1 < 2147483648) ∧ (0 : Int) ≤ F x0 13 ∧ (∀ E4, E4 = pUp E (F x0 13) 1 ((E (F x0 13) 1) + 1) → Q (some (0, (-2))) (n, K, F3, E4)))))) ∧ (¬ (x1 < 2) → (K x0).1 = 11 ∧ (∀ F5, F5 = pUp F x0 16 (-1) → (K (F x0 13)).1 = 20 ∧ ((0 : Int) ≤ 0 ∧ 0 < ((K (F x0 13)).2 : Int)) ∧ (-2147483648 ≤ (E (F x0 13) 0) + 1 ∧ (E (F x0 13) 0) + 1 < 2147483648) ∧ (0 : Int) ≤ F x0 13 ∧ (∀ E6, E6 = pUp E (F x0 13) 0 ((E (F x0 13) 0) + 1) → Q (some (0, (-1))) (n, K, F5, E6)))))))) : PW l G 2 mX11_back bg 0 [(0, (2, x0)), (1, (0, x1))] [] (n, K, F, E) Q := by
  refine s_iload_n (q := 1) 0 1 rfl rfl ?_
  refine s_if_lt (q := 4) (tgt := 9) 1 rfl rfl (fun hb => ?_) (fun hb => ?_)
  · skip
    have b1 := hb
    replace h := h.1 hb
    refine s_aload_n (q := 10) 5 0 rfl rfl ?_
    refine s_iconst (q := 11) 6 rfl ?_
    obtain ⟨c2, h⟩ := h
    refine n_callV (N := mX11_refuse) (as := [(0, (-1))]) (st := []) (q := 14) (d' := 0) 7 rfl uX11_refuse kX11_114 rfl c2 ?_
    show PW l G 0 mX11_refuse (0, 0) 0 [(0, (2, x0)), (1, (0, (-1)))] [] (n, K, F, E) _
    refine s_aload_n (q := 1) 0 0 rfl rfl ?_
    refine s_iload_n (q := 2) 1 1 rfl rfl ?_
    refine n_putf (q := 5) (jj := 16) 2 11 16 rfl kX11_97 c2 (Or.inl rfl) ?_
    refine PW.nameF (fun F1 eF1 => ?_)
    replace h := h F1 eF1
    refine s_iload_n (q := 6) 3 1 rfl rfl ?_
    refine s_bipush (q := 8) 4 rfl ?_
    refine s_icmp_lt (q := 11) (tgt := 18) 5 rfl rfl (fun hb => absurd hb (by decide)) (fun _ => ?_)
    refine s_iload_n (q := 12) 6 1 rfl rfl ?_
    refine n_ineg (q := 13) 7 rfl (by decide) ?_
    refine PW.top (b := 1) (by decide) ?_
    refine s_iconst (q := 14) 8 rfl ?_
    refine n_isub (q := 15) 9 rfl (by decide) ?_
    refine PW.top (b := 0) (by decide) ?_
    refine s_goto (tgt := 22) 10 rfl rfl ?_
    refine s_istore_n (q := 23) (lv' := [(2, (0, 0)), (0, (2, x0)), (1, (0, (-1)))]) 15 rfl rfl ?_
    refine s_iload_n (q := 24) 16 0 rfl rfl ?_
    refine s_if_lt (q := 27) (tgt := 42) 17 rfl rfl (fun hb => absurd hb (by decide)) (fun _ => ?_)
    refine s_iload_n (q := 28) 18 0 rfl rfl ?_
    refine s_iconst (q := 29) 19 rfl ?_
    refine s_icmp_ge (q := 32) (tgt := 42) 20 rfl rfl (fun hb => absurd hb (by decide)) (fun _ => ?_)
    refine s_aload_n (q := 33) 21 1 rfl rfl ?_
    refine n_getf (q := 36) (jj := 13) 22 11 13 rfl kX11_87 c2 ?_
    refine PW.top (b := F x0 13) (by exact (congrFun (congrFun eF1 _) _).trans (pUp_k (by decide))) ?_
    refine s_iload_n (q := 37) 23 0 rfl rfl ?_
    refine s_dup2 (q := 38) 24 rfl ?_
    obtain ⟨c3, h⟩ := h
    obtain ⟨c4, h⟩ := h
    refine n_iald (q := 39) 25 rfl c3 c4 ?_
    refine s_iconst (q := 40) 26 rfl ?_
    obtain ⟨c5, h⟩ := h
    refine n_iadd (q := 41) 27 rfl c5 ?_
    obtain ⟨c6, h⟩ := h
    refine n_iast (q := 42) 28 rfl c6 c3 c4 ?_
    refine PW.nameE (fun E2 eE2 => ?_)
    replace h := h E2 eE2
    refine s_iload_n (q := 43) 29 2 rfl rfl ?_
    refine s_iret 30 rfl rfl ?_
    show PW l G 2 mX11_back bg 14 [(0, (2, x0)), (1, (0, x1))] [(0, (-1))] (n, K, F1, E2) Q
    exact s_iret 8 rfl rfl h
  · skip
    have b1 := hb
    replace h := h.2 hb
    refine s_iload_n (q := 5) 2 1 rfl rfl ?_
    refine s_iconst (q := 6) 3 rfl ?_
    refine s_icmp_lt (q := 9) (tgt := 15) 4 rfl rfl (fun hb => ?_) (fun hb => ?_)
    · skip
      have b7 := hb
      replace h := h.1 hb
      refine s_aload_n (q := 16) 9 0 rfl rfl ?_
      obtain ⟨c8, h⟩ := h
      refine n_getf (q := 19) (jj := 2) 10 11 2 rfl kX11_20 c8 ?_
      refine s_iload_n (q := 20) 11 1 rfl rfl ?_
      obtain ⟨c9, h⟩ := h
      obtain ⟨c10, h⟩ := h
      obtain ⟨c11, h⟩ := h
      refine n_bald (q := 21) 12 3 rfl c9 c10 c11 ?_
      refine s_if_ne (q := 24) (tgt := 31) 13 rfl rfl (fun hb => ?_) (fun hb => ?_)
      · skip
        have b12 := hb
        replace h := h.1 hb
        refine s_aload_n (q := 32) 18 0 rfl rfl ?_
        refine n_getf (q := 35) (jj := 0) 19 11 0 rfl kX11_10 c8 ?_
        refine s_aload_n (q := 36) 20 0 rfl rfl ?_
        refine n_getf (q := 39) (jj := 1) 21 11 1 rfl kX11_16 c8 ?_
        refine s_iload_n (q := 40) 22 1 rfl rfl ?_
        obtain ⟨c13, h⟩ := h
        obtain ⟨c14, h⟩ := h
        obtain ⟨c15, h⟩ := h
        refine n_aald (q := 41) 23 4 rfl c13 c14 c15 ?_
        obtain ⟨c16, h⟩ := h
        refine PW.pick [0] rfl ?_
        exact n_callV (N := mX1_copy) (as := [(2, E (F x0 1) x1)]) (st := []) (q := 44) (d' := 1) 24 rfl uX1_copy kX11_323 rfl c16 h
      · have hb := Classical.not_not.mp hb
        have b12 := hb
        replace h := h.2 hb
        refine s_aload_n (q := 25) 14 0 rfl rfl ?_
        refine s_bipush (q := 27) 15 rfl ?_
        refine n_callV (N := mX11_refuse) (as := [(0, (-2))]) (st := []) (q := 30) (d' := 0) 16 rfl uX11_refuse kX11_114 rfl c8 ?_
        show PW l G 0 mX11_refuse (0, 0) 0 [(0, (2, x0)), (1, (0, (-2)))] [] (n, K, F, E) _
        refine s_aload_n (q := 1) 0 0 rfl rfl ?_
        refine s_iload_n (q := 2) 1 1 rfl rfl ?_
        refine n_putf (q := 5) (jj := 16) 2 11 16 rfl kX11_97 c8 (Or.inl rfl) ?_
        refine PW.nameF (fun F3 eF3 => ?_)
        replace h := h F3 eF3
        refine s_iload_n (q := 6) 3 1 rfl rfl ?_
        refine s_bipush (q := 8) 4 rfl ?_
        refine s_icmp_lt (q := 11) (tgt := 18) 5 rfl rfl (fun hb => absurd hb (by decide)) (fun _ => ?_)
        refine s_iload_n (q := 12) 6 1 rfl rfl ?_
        refine n_ineg (q := 13) 7 rfl (by decide) ?_
        refine PW.top (b := 2) (by decide) ?_
        refine s_iconst (q := 14) 8 rfl ?_
        refine n_isub (q := 15) 9 rfl (by decide) ?_
        refine PW.top (b := 1) (by decide) ?_
        refine s_goto (tgt := 22) 10 rfl rfl ?_
        refine s_istore_n (q := 23) (lv' := [(2, (0, 1)), (0, (2, x0)), (1, (0, (-2)))]) 15 rfl rfl ?_
        refine s_iload_n (q := 24) 16 0 rfl rfl ?_
        refine s_if_lt (q := 27) (tgt := 42) 17 rfl rfl (fun hb => absurd hb (by decide)) (fun _ => ?_)
        refine s_iload_n (q := 28) 18 0 rfl rfl ?_
        refine s_iconst (q := 29) 19 rfl ?_
        refine s_icmp_ge (q := 32) (tgt := 42) 20 rfl rfl (fun hb => absurd hb (by decide)) (fun _ => ?_)
        refine s_aload_n (q := 33) 21 1 rfl rfl ?_
        refine n_getf (q := 36) (jj := 13) 22 11 13 rfl kX11_87 c8 ?_
        refine PW.top (b := F x0 13) (by exact (congrFun (congrFun eF3 _) _).trans (pUp_k (by decide))) ?_
        refine s_iload_n (q := 37) 23 0 rfl rfl ?_
        refine s_dup2 (q := 38) 24 rfl ?_
        obtain ⟨c17, h⟩ := h
        obtain ⟨c18, h⟩ := h
        refine n_iald (q := 39) 25 rfl c17 c18 ?_
        refine s_iconst (q := 40) 26 rfl ?_
        obtain ⟨c19, h⟩ := h
        refine n_iadd (q := 41) 27 rfl c19 ?_
        obtain ⟨c20, h⟩ := h
        refine n_iast (q := 42) 28 rfl c20 c17 c18 ?_
        refine PW.nameE (fun E4 eE4 => ?_)
        replace h := h E4 eE4
        refine s_iload_n (q := 43) 29 2 rfl rfl ?_
        refine s_iret 30 rfl rfl ?_
        show PW l G 2 mX11_back bg 30 [(0, (2, x0)), (1, (0, x1))] [(0, (-2))] (n, K, F3, E4) Q
        exact s_iret 17 rfl rfl h
    · skip
      have b7 := hb
      replace h := h.2 hb
      refine s_aload_n (q := 10) 5 0 rfl rfl ?_
      refine s_iconst (q := 11) 6 rfl ?_
      obtain ⟨c21, h⟩ := h
      refine n_callV (N := mX11_refuse) (as := [(0, (-1))]) (st := []) (q := 14) (d' := 0) 7 rfl uX11_refuse kX11_114 rfl c21 ?_
      show PW l G 0 mX11_refuse (0, 0) 0 [(0, (2, x0)), (1, (0, (-1)))] [] (n, K, F, E) _
      refine s_aload_n (q := 1) 0 0 rfl rfl ?_
      refine s_iload_n (q := 2) 1 1 rfl rfl ?_
      refine n_putf (q := 5) (jj := 16) 2 11 16 rfl kX11_97 c21 (Or.inl rfl) ?_
      refine PW.nameF (fun F5 eF5 => ?_)
      replace h := h F5 eF5
      refine s_iload_n (q := 6) 3 1 rfl rfl ?_
      refine s_bipush (q := 8) 4 rfl ?_
      refine s_icmp_lt (q := 11) (tgt := 18) 5 rfl rfl (fun hb => absurd hb (by decide)) (fun _ => ?_)
      refine s_iload_n (q := 12) 6 1 rfl rfl ?_
      refine n_ineg (q := 13) 7 rfl (by decide) ?_
      refine PW.top (b := 1) (by decide) ?_
      refine s_iconst (q := 14) 8 rfl ?_
      refine n_isub (q := 15) 9 rfl (by decide) ?_
      refine PW.top (b := 0) (by decide) ?_
      refine s_goto (tgt := 22) 10 rfl rfl ?_
      refine s_istore_n (q := 23) (lv' := [(2, (0, 0)), (0, (2, x0)), (1, (0, (-1)))]) 15 rfl rfl ?_
      refine s_iload_n (q := 24) 16 0 rfl rfl ?_
      refine s_if_lt (q := 27) (tgt := 42) 17 rfl rfl (fun hb => absurd hb (by decide)) (fun _ => ?_)
      refine s_iload_n (q := 28) 18 0 rfl rfl ?_
      refine s_iconst (q := 29) 19 rfl ?_
      refine s_icmp_ge (q := 32) (tgt := 42) 20 rfl rfl (fun hb => absurd hb (by decide)) (fun _ => ?_)
      refine s_aload_n (q := 33) 21 1 rfl rfl ?_
      refine n_getf (q := 36) (jj := 13) 22 11 13 rfl kX11_87 c21 ?_
      refine PW.top (b := F x0 13) (by exact (congrFun (congrFun eF5 _) _).trans (pUp_k (by decide))) ?_
      refine s_iload_n (q := 37) 23 0 rfl rfl ?_
      refine s_dup2 (q := 38) 24 rfl ?_
      obtain ⟨c22, h⟩ := h
      obtain ⟨c23, h⟩ := h
      refine n_iald (q := 39) 25 rfl c22 c23 ?_
      refine s_iconst (q := 40) 26 rfl ?_
      obtain ⟨c24, h⟩ := h
      refine n_iadd (q := 41) 27 rfl c24 ?_
      obtain ⟨c25, h⟩ := h
      refine n_iast (q := 42) 28 rfl c25 c22 c23 ?_
      refine PW.nameE (fun E6 eE6 => ?_)
      replace h := h E6 eE6
      refine s_iload_n (q := 43) 29 2 rfl rfl ?_
      refine s_iret 30 rfl rfl ?_
      show PW l G 2 mX11_back bg 14 [(0, (2, x0)), (1, (0, x1))] [(0, (-1))] (n, K, F5, E6) Q
      exact s_iret 8 rfl rfl h
theorem vX11_back_44 {l : Launch} {G : pG} {bg : Nat × Nat} {n : Nat} {K : Int → Nat × Nat} {F E : Int → Int → Int} {Q : Option pV → pM → Prop} (x0 : Int) (h : (K x0).1 = 11 ∧ (K (F x0 3)).1 = 3 ∧ (∀ F1, F1 = pUp F (F x0 3) 3 0 → (∀ F2, F2 = pUp F1 x0 16 0 → Q (some (0, 0)) (n, K, F2, E)))) : PW l G 2 mX11_back bg 44 [(0, (2, x0))] [] (n, K, F, E) Q := by
  refine s_aload_n (q := 45) 25 0 rfl rfl ?_
  obtain ⟨c1, h⟩ := h
  refine n_getf (q := 48) (jj := 3) 26 11 3 rfl kX11_27 c1 ?_
  refine s_iconst (q := 49) 27 rfl ?_
  obtain ⟨c2, h⟩ := h
  refine n_putf (q := 52) (jj := 3) 28 3 3 rfl kX11_176 c2 (Or.inl rfl) ?_
  refine PW.nameF (fun F1 eF1 => ?_)
  replace h := h F1 eF1
  refine s_aload_n (q := 53) 29 0 rfl rfl ?_
  refine s_iconst (q := 54) 30 rfl ?_
  refine n_callV (N := mX11_accept) (as := [(0, 0)]) (st := []) (q := 57) (d' := 0) 31 rfl uX11_accept kX11_157 rfl c1 ?_
  show PW l G 0 mX11_accept (0, 0) 0 [(0, (2, x0)), (1, (0, 0))] [] (n, K, F1, E) _
  refine s_aload_n (q := 1) 0 0 rfl rfl ?_
  refine s_iconst (q := 2) 1 rfl ?_
  refine n_putf (q := 5) (jj := 16) 2 11 16 rfl kX11_97 c1 (Or.inl rfl) ?_
  refine PW.nameF (fun F2 eF2 => ?_)
  replace h := h F2 eF2
  refine s_iload_n (q := 6) 3 1 rfl rfl ?_
  refine s_iret 4 rfl rfl ?_
  show PW l G 2 mX11_back bg 57 [(0, (2, x0))] [(0, 0)] (n, K, F2, E) Q
  exact s_iret 32 rfl rfl h
theorem vX11_count_0 {l : Launch} {G : pG} {bg : Nat × Nat} {n : Nat} {K : Int → Nat × Nat} {F E : Int → Int → Int} {Q : Option pV → pM → Prop} (x0 x1 : Int) (h : (((x1 < 0 ∨ 17 < x1) → ((x1 < 7 → ((x1 < 13 → Q (some (0, (-1))) (n, K, F, E)) ∧ (¬ (x1 < 13) → ((16 ≤ x1 → Q (some (0, (-1))) (n, K, F, E)) ∧ (¬ (16 ≤ x1) → (K x0).1 = 11 ∧ (K (F x0 0)).1 = 1 ∧ (-2147483648 ≤ x1 - 13 ∧ x1 - 13 < 2147483648) ∧ (K (F (F x0 0) 1)).1 = 20 ∧ ((0 : Int) ≤ x1 - 13 ∧ x1 - 13 < ((K (F (F x0 0) 1)).2 : Int)) ∧ Q (some (0, E (F (F x0 0) 1) (x1 - 13))) (n, K, F, E)))))) ∧ (¬ (x1 < 7) → ((12 ≤ x1 → ((x1 < 13 → Q (some (0, (-1))) (n, K, F, E)) ∧ (¬ (x1 < 13) → ((16 ≤ x1 → Q (some (0, (-1))) (n, K, F, E)) ∧ (¬ (16 ≤ x1) → (K x0).1 = 11 ∧ (K (F x0 0)).1 = 1 ∧ (-2147483648 ≤ x1 - 13 ∧ x1 - 13 < 2147483648) ∧ (K (F (F x0 0) 1)).1 = 20 ∧ ((0 : Int) ≤ x1 - 13 ∧ x1 - 13 < ((K (F (F x0 0) 1)).2 : Int)) ∧ Q (some (0, E (F (F x0 0) 1) (x1 - 13))) (n, K, F, E)))))) ∧ (¬ (12 ≤ x1) → (K x0).1 = 11 ∧ (-2147483648 ≤ x1 - 7 ∧ x1 - 7 < 2147483648) ∧ (K (F x0 13)).1 = 20 ∧ ((0 : Int) ≤ x1 - 7 ∧ x1 - 7 < ((K (F x0 13)).2 : Int)) ∧ Q (some (0, E (F x0 13) (x1 - 7))) (n, K, F, E)))))) ∧ (x1 = 0 → (K x0).1 = 11 ∧ (K (F x0 0)).1 = 1 ∧ (K (F (F x0 0) 0)).1 = 0 ∧ (K (F (F (F x0 0) 0) 0)).1 = 20 ∧ ((0 : Int) ≤ 0 ∧ 0 < ((K (F (F (F x0 0) 0) 0)).2 : Int)) ∧ Q (some (0, E (F (F (F x0 0) 0) 0) 0)) (n, K, F, E)) ∧ (x1 = 1 → (K x0).1 = 11 ∧ (K (F x0 0)).1 = 1 ∧ (K (F (F x0 0) 0)).1 = 0 ∧ (K (F (F (F x0 0) 0) 0)).1 = 20 ∧ ((0 : Int) ≤ 1 ∧ 1 < ((K (F (F (F x0 0) 0) 0)).2 : Int)) ∧ Q (some (0, E (F (F (F x0 0) 0) 0) 1)) (n, K, F, E)) ∧ (x1 = 2 → (K x0).1 = 11 ∧ (K (F x0 0)).1 = 1 ∧ (K (F (F x0 0) 0)).1 = 0 ∧ (K (F (F (F x0 0) 0) 0)).1 = 20 ∧ ((0 : Int) ≤ 2 ∧ 2 < ((K (F (F (F x0 0) 0) 0)).2 : Int)) ∧ Q (some (0, E (F (F (F x0 0) 0) 0) 2)) (n, K, F, E)) ∧ (x1 = 3 → (K x0).1 = 11 ∧ (K (F x0 0)).1 = 1 ∧ Q (some (0, F (F x0 0) 4)) (n, K, F, E)) ∧ (x1 = 4 → (K x0).1 = 11 ∧ (K (F x0 0)).1 = 1 ∧ Q (some (0, F (F x0 0) 6)) (n, K, F, E)) ∧ (x1 = 5 → (K x0).1 = 11 ∧ (K (F x0 3)).1 = 3 ∧ Q (some (0, F (F x0 3) 3)) (n, K, F, E)) ∧ (x1 = 6 → (K x0).1 = 11 ∧ (K (F x0 9)).1 = 8 ∧ Q (some (0, F (F x0 9) 1)) (n, K, F, E)) ∧ (x1 = 7 → ((x1 < 7 → ((x1 < 13 → Q (some (0, (-1))) (n, K, F, E)) ∧ (¬ (x1 < 13) → ((16 ≤ x1 → Q (some (0, (-1))) (n, K, F, E)) ∧ (¬ (16 ≤ x1) → (K x0).1 = 11 ∧ (K (F x0 0)).1 = 1 ∧ (-2147483648 ≤ x1 - 13 ∧ x1 - 13 < 2147483648) ∧ (K (F (F x0 0) 1)).1 = 20 ∧ ((0 : Int) ≤ x1 - 13 ∧ x1 - 13 < ((K (F (F x0 0) 1)).2 : Int)) ∧ Q (some (0, E (F (F x0 0) 1) (x1 - 13))) (n, K, F, E)))))) ∧ (¬ (x1 < 7) → ((12 ≤ x1 → ((x1 < 13 → Q (some (0, (-1))) (n, K, F, E)) ∧ (¬ (x1 < 13) → ((16 ≤ x1 → Q (some (0, (-1))) (n, K, F, E)) ∧ (¬ (16 ≤ x1) → (K x0).1 = 11 ∧ (K (F x0 0)).1 = 1 ∧ (-2147483648 ≤ x1 - 13 ∧ x1 - 13 < 2147483648) ∧ (K (F (F x0 0) 1)).1 = 20 ∧ ((0 : Int) ≤ x1 - 13 ∧ x1 - 13 < ((K (F (F x0 0) 1)).2 : Int)) ∧ Q (some (0, E (F (F x0 0) 1) (x1 - 13))) (n, K, F, E)))))) ∧ (¬ (12 ≤ x1) → (K x0).1 = 11 ∧ (-2147483648 ≤ x1 - 7 ∧ x1 - 7 < 2147483648) ∧ (K (F x0 13)).1 = 20 ∧ ((0 : Int) ≤ x1 - 7 ∧ x1 - 7 < ((K (F x0 13)).2 : Int)) ∧ Q (some (0, E (F x0 13) (x1 - 7))) (n, K, F, E)))))) ∧ (x1 = 8 → ((x1 < 7 → ((x1 < 13 → Q (some (0, (-1))) (n, K, F, E)) ∧ (¬ (x1 < 13) → ((16 ≤ x1 → Q (some (0, (-1))) (n, K, F, E)) ∧ (¬ (16 ≤ x1) → (K x0).1 = 11 ∧ (K (F x0 0)).1 = 1 ∧ (-2147483648 ≤ x1 - 13 ∧ x1 - 13 < 2147483648) ∧ (K (F (F x0 0) 1)).1 = 20 ∧ ((0 : Int) ≤ x1 - 13 ∧ x1 - 13 < ((K (F (F x0 0) 1)).2 : Int)) ∧ Q (some (0, E (F (F x0 0) 1) (x1 - 13))) (n, K, F, E)))))) ∧ (¬ (x1 < 7) → ((12 ≤ x1 → ((x1 < 13 → Q (some (0, (-1))) (n, K, F, E)) ∧ (¬ (x1 < 13) → ((16 ≤ x1 → Q (some (0, (-1))) (n, K, F, E)) ∧ (¬ (16 ≤ x1) → (K x0).1 = 11 ∧ (K (F x0 0)).1 = 1 ∧ (-2147483648 ≤ x1 - 13 ∧ x1 - 13 < 2147483648) ∧ (K (F (F x0 0) 1)).1 = 20 ∧ ((0 : Int) ≤ x1 - 13 ∧ x1 - 13 < ((K (F (F x0 0) 1)).2 : Int)) ∧ Q (some (0, E (F (F x0 0) 1) (x1 - 13))) (n, K, F, E)))))) ∧ (¬ (12 ≤ x1) → (K x0).1 = 11 ∧ (-2147483648 ≤ x1 - 7 ∧ x1 - 7 < 2147483648) ∧ (K (F x0 13)).1 = 20 ∧ ((0 : Int) ≤ x1 - 7 ∧ x1 - 7 < ((K (F x0 13)).2 : Int)) ∧ Q (some (0, E (F x0 13) (x1 - 7))) (n, K, F, E)))))) ∧ (x1 = 9 → ((x1 < 7 → ((x1 < 13 → Q (some (0, (-1))) (n, K, F, E)) ∧ (¬ (x1 < 13) → ((16 ≤ x1 → Q (some (0, (-1))) (n, K, F, E)) ∧ (¬ (16 ≤ x1) → (K x0).1 = 11 ∧ (K (F x0 0)).1 = 1 ∧ (-2147483648 ≤ x1 - 13 ∧ x1 - 13 < 2147483648) ∧ (K (F (F x0 0) 1)).1 = 20 ∧ ((0 : Int) ≤ x1 - 13 ∧ x1 - 13 < ((K (F (F x0 0) 1)).2 : Int)) ∧ Q (some (0, E (F (F x0 0) 1) (x1 - 13))) (n, K, F, E)))))) ∧ (¬ (x1 < 7) → ((12 ≤ x1 → ((x1 < 13 → Q (some (0, (-1))) (n, K, F, E)) ∧ (¬ (x1 < 13) → ((16 ≤ x1 → Q (some (0, (-1))) (n, K, F, E)) ∧ (¬ (16 ≤ x1) → (K x0).1 = 11 ∧ (K (F x0 0)).1 = 1 ∧ (-2147483648 ≤ x1 - 13 ∧ x1 - 13 < 2147483648) ∧ (K (F (F x0 0) 1)).1 = 20 ∧ ((0 : Int) ≤ x1 - 13 ∧ x1 - 13 < ((K (F (F x0 0) 1)).2 : Int)) ∧ Q (some (0, E (F (F x0 0) 1) (x1 - 13))) (n, K, F, E)))))) ∧ (¬ (12 ≤ x1) → (K x0).1 = 11 ∧ (-2147483648 ≤ x1 - 7 ∧ x1 - 7 < 2147483648) ∧ (K (F x0 13)).1 = 20 ∧ ((0 : Int) ≤ x1 - 7 ∧ x1 - 7 < ((K (F x0 13)).2 : Int)) ∧ Q (some (0, E (F x0 13) (x1 - 7))) (n, K, F, E)))))) ∧ (x1 = 10 → ((x1 < 7 → ((x1 < 13 → Q (some (0, (-1))) (n, K, F, E)) ∧ (¬ (x1 < 13) → ((16 ≤ x1 → Q (some (0, (-1))) (n, K, F, E)) ∧ (¬ (16 ≤ x1) → (K x0).1 = 11 ∧ (K (F x0 0)).1 = 1 ∧ (-2147483648 ≤ x1 - 13 ∧ x1 - 13 < 2147483648) ∧ (K (F (F x0 0) 1)).1 = 20 ∧ ((0 : Int) ≤ x1 - 13 ∧ x1 - 13 < ((K (F (F x0 0) 1)).2 : Int)) ∧ Q (some (0, E (F (F x0 0) 1) (x1 - 13))) (n, K, F, E)))))) ∧ (¬ (x1 < 7) → ((12 ≤ x1 → ((x1 < 13 → Q (some (0, (-1))) (n, K, F, E)) ∧ (¬ (x1 < 13) → ((16 ≤ x1 → Q (some (0, (-1))) (n, K, F, E)) ∧ (¬ (16 ≤ x1) → (K x0).1 = 11 ∧ (K (F x0 0)).1 = 1 ∧ (-2147483648 ≤ x1 - 13 ∧ x1 - 13 < 2147483648) ∧ (K (F (F x0 0) 1)).1 = 20 ∧ ((0 : Int) ≤ x1 - 13 ∧ x1 - 13 < ((K (F (F x0 0) 1)).2 : Int)) ∧ Q (some (0, E (F (F x0 0) 1) (x1 - 13))) (n, K, F, E)))))) ∧ (¬ (12 ≤ x1) → (K x0).1 = 11 ∧ (-2147483648 ≤ x1 - 7 ∧ x1 - 7 < 2147483648) ∧ (K (F x0 13)).1 = 20 ∧ ((0 : Int) ≤ x1 - 7 ∧ x1 - 7 < ((K (F x0 13)).2 : Int)) ∧ Q (some (0, E (F x0 13) (x1 - 7))) (n, K, F, E)))))) ∧ (x1 = 11 → ((x1 < 7 → ((x1 < 13 → Q (some (0, (-1))) (n, K, F, E)) ∧ (¬ (x1 < 13) → ((16 ≤ x1 → Q (some (0, (-1))) (n, K, F, E)) ∧ (¬ (16 ≤ x1) → (K x0).1 = 11 ∧ (K (F x0 0)).1 = 1 ∧ (-2147483648 ≤ x1 - 13 ∧ x1 - 13 < 2147483648) ∧ (K (F (F x0 0) 1)).1 = 20 ∧ ((0 : Int) ≤ x1 - 13 ∧ x1 - 13 < ((K (F (F x0 0) 1)).2 : Int)) ∧ Q (some (0, E (F (F x0 0) 1) (x1 - 13))) (n, K, F, E)))))) ∧ (¬ (x1 < 7) → ((12 ≤ x1 → ((x1 < 13 → Q (some (0, (-1))) (n, K, F, E)) ∧ (¬ (x1 < 13) → ((16 ≤ x1 → Q (some (0, (-1))) (n, K, F, E)) ∧ (¬ (16 ≤ x1) → (K x0).1 = 11 ∧ (K (F x0 0)).1 = 1 ∧ (-2147483648 ≤ x1 - 13 ∧ x1 - 13 < 2147483648) ∧ (K (F (F x0 0) 1)).1 = 20 ∧ ((0 : Int) ≤ x1 - 13 ∧ x1 - 13 < ((K (F (F x0 0) 1)).2 : Int)) ∧ Q (some (0, E (F (F x0 0) 1) (x1 - 13))) (n, K, F, E)))))) ∧ (¬ (12 ≤ x1) → (K x0).1 = 11 ∧ (-2147483648 ≤ x1 - 7 ∧ x1 - 7 < 2147483648) ∧ (K (F x0 13)).1 = 20 ∧ ((0 : Int) ≤ x1 - 7 ∧ x1 - 7 < ((K (F x0 13)).2 : Int)) ∧ Q (some (0, E (F x0 13) (x1 - 7))) (n, K, F, E)))))) ∧ (x1 = 12 → (K x0).1 = 11 ∧ (K (F x0 0)).1 = 1 ∧ Q (some (0, F (F x0 0) 7)) (n, K, F, E)) ∧ (x1 = 13 → ((x1 < 7 → ((x1 < 13 → Q (some (0, (-1))) (n, K, F, E)) ∧ (¬ (x1 < 13) → ((16 ≤ x1 → Q (some (0, (-1))) (n, K, F, E)) ∧ (¬ (16 ≤ x1) → (K x0).1 = 11 ∧ (K (F x0 0)).1 = 1 ∧ (-2147483648 ≤ x1 - 13 ∧ x1 - 13 < 2147483648) ∧ (K (F (F x0 0) 1)).1 = 20 ∧ ((0 : Int) ≤ x1 - 13 ∧ x1 - 13 < ((K (F (F x0 0) 1)).2 : Int)) ∧ Q (some (0, E (F (F x0 0) 1) (x1 - 13))) (n, K, F, E)))))) ∧ (¬ (x1 < 7) → ((12 ≤ x1 → ((x1 < 13 → Q (some (0, (-1))) (n, K, F, E)) ∧ (¬ (x1 < 13) → ((16 ≤ x1 → Q (some (0, (-1))) (n, K, F, E)) ∧ (¬ (16 ≤ x1) → (K x0).1 = 11 ∧ (K (F x0 0)).1 = 1 ∧ (-2147483648 ≤ x1 - 13 ∧ x1 - 13 < 2147483648) ∧ (K (F (F x0 0) 1)).1 = 20 ∧ ((0 : Int) ≤ x1 - 13 ∧ x1 - 13 < ((K (F (F x0 0) 1)).2 : Int)) ∧ Q (some (0, E (F (F x0 0) 1) (x1 - 13))) (n, K, F, E)))))) ∧ (¬ (12 ≤ x1) → (K x0).1 = 11 ∧ (-2147483648 ≤ x1 - 7 ∧ x1 - 7 < 2147483648) ∧ (K (F x0 13)).1 = 20 ∧ ((0 : Int) ≤ x1 - 7 ∧ x1 - 7 < ((K (F x0 13)).2 : Int)) ∧ Q (some (0, E (F x0 13) (x1 - 7))) (n, K, F, E)))))) ∧ (x1 = 14 → ((x1 < 7 → ((x1 < 13 → Q (some (0, (-1))) (n, K, F, E)) ∧ (¬ (x1 < 13) → ((16 ≤ x1 → Q (some (0, (-1))) (n, K, F, E)) ∧ (¬ (16 ≤ x1) → (K x0).1 = 11 ∧ (K (F x0 0)).1 = 1 ∧ (-2147483648 ≤ x1 - 13 ∧ x1 - 13 < 2147483648) ∧ (K (F (F x0 0) 1)).1 = 20 ∧ ((0 : Int) ≤ x1 - 13 ∧ x1 - 13 < ((K (F (F x0 0) 1)).2 : Int)) ∧ Q (some (0, E (F (F x0 0) 1) (x1 - 13))) (n, K, F, E)))))) ∧ (¬ (x1 < 7) → ((12 ≤ x1 → ((x1 < 13 → Q (some (0, (-1))) (n, K, F, E)) ∧ (¬ (x1 < 13) → ((16 ≤ x1 → Q (some (0, (-1))) (n, K, F, E)) ∧ (¬ (16 ≤ x1) → (K x0).1 = 11 ∧ (K (F x0 0)).1 = 1 ∧ (-2147483648 ≤ x1 - 13 ∧ x1 - 13 < 2147483648) ∧ (K (F (F x0 0) 1)).1 = 20 ∧ ((0 : Int) ≤ x1 - 13 ∧ x1 - 13 < ((K (F (F x0 0) 1)).2 : Int)) ∧ Q (some (0, E (F (F x0 0) 1) (x1 - 13))) (n, K, F, E)))))) ∧ (¬ (12 ≤ x1) → (K x0).1 = 11 ∧ (-2147483648 ≤ x1 - 7 ∧ x1 - 7 < 2147483648) ∧ (K (F x0 13)).1 = 20 ∧ ((0 : Int) ≤ x1 - 7 ∧ x1 - 7 < ((K (F x0 13)).2 : Int)) ∧ Q (some (0, E (F x0 13) (x1 - 7))) (n, K, F, E)))))) ∧ (x1 = 15 → ((x1 < 7 → ((x1 < 13 → Q (some (0, (-1))) (n, K, F, E)) ∧ (¬ (x1 < 13) → ((16 ≤ x1 → Q (some (0, (-1))) (n, K, F, E)) ∧ (¬ (16 ≤ x1) → (K x0).1 = 11 ∧ (K (F x0 0)).1 = 1 ∧ (-2147483648 ≤ x1 - 13 ∧ x1 - 13 < 2147483648) ∧ (K (F (F x0 0) 1)).1 = 20 ∧ ((0 : Int) ≤ x1 - 13 ∧ x1 - 13 < ((K (F (F x0 0) 1)).2 : Int)) ∧ Q (some (0, E (F (F x0 0) 1) (x1 - 13))) (n, K, F, E)))))) ∧ (¬ (x1 < 7) → ((12 ≤ x1 → ((x1 < 13 → Q (some (0, (-1))) (n, K, F, E)) ∧ (¬ (x1 < 13) → ((16 ≤ x1 → Q (some (0, (-1))) (n, K, F, E)) ∧ (¬ (16 ≤ x1) → (K x0).1 = 11 ∧ (K (F x0 0)).1 = 1 ∧ (-2147483648 ≤ x1 - 13 ∧ x1 - 13 < 2147483648) ∧ (K (F (F x0 0) 1)).1 = 20 ∧ ((0 : Int) ≤ x1 - 13 ∧ x1 - 13 < ((K (F (F x0 0) 1)).2 : Int)) ∧ Q (some (0, E (F (F x0 0) 1) (x1 - 13))) (n, K, F, E)))))) ∧ (¬ (12 ≤ x1) → (K x0).1 = 11 ∧ (-2147483648 ≤ x1 - 7 ∧ x1 - 7 < 2147483648) ∧ (K (F x0 13)).1 = 20 ∧ ((0 : Int) ≤ x1 - 7 ∧ x1 - 7 < ((K (F x0 13)).2 : Int)) ∧ Q (some (0, E (F x0 13) (x1 - 7))) (n, K, F, E)))))) ∧ (x1 = 16 → (K x0).1 = 11 ∧ (K (F x0 11)).1 = 2 ∧ Q (some (0, F (F x0 11) 1)) (n, K, F, E)) ∧ (x1 = 17 → (K x0).1 = 11 ∧ (K (F x0 11)).1 = 2 ∧ Q (some (0, F (F x0 11) 3)) (n, K, F, E)))) : PW l G 1 mX11_count bg 0 [(0, (2, x0)), (1, (0, x1))] [] (n, K, F, E) Q := by
  refine s_iload_n (q := 1) 0 1 rfl rfl ?_
  obtain ⟨h0, h⟩ := h
  by_cases hsw : x1 < 0 ∨ 17 < x1
  · refine s_tableOut (tgt := 177) 1 rfl hsw rfl ?_
    replace h := h0 hsw
    refine s_iload_n (q := 178) 45 1 rfl rfl ?_
    refine s_bipush (q := 180) 46 rfl ?_
    refine s_icmp_lt (q := 183) (tgt := 199) 47 rfl rfl (fun hb => ?_) (fun hb => ?_)
    · skip
      have b1 := hb
      replace h := h.1 hb
      refine s_iload_n (q := 200) 58 1 rfl rfl ?_
      refine s_bipush (q := 202) 59 rfl ?_
      refine s_icmp_lt (q := 205) (tgt := 226) 60 rfl rfl (fun hb => ?_) (fun hb => ?_)
      · skip
        have b2 := hb
        replace h := h.1 hb
        refine s_iconst (q := 227) 72 rfl ?_
        exact s_iret 73 rfl rfl h
      · skip
        have b2 := hb
        replace h := h.2 hb
        refine s_iload_n (q := 206) 61 1 rfl rfl ?_
        refine s_bipush (q := 208) 62 rfl ?_
        refine s_icmp_ge (q := 211) (tgt := 226) 63 rfl rfl (fun hb => ?_) (fun hb => ?_)
        · skip
          have b3 := hb
          replace h := h.1 hb
          refine s_iconst (q := 227) 72 rfl ?_
          exact s_iret 73 rfl rfl h
        · skip
          have b3 := hb
          replace h := h.2 hb
          refine s_aload_n (q := 212) 64 0 rfl rfl ?_
          obtain ⟨c4, h⟩ := h
          refine n_getf (q := 215) (jj := 0) 65 11 0 rfl kX11_10 c4 ?_
          obtain ⟨c5, h⟩ := h
          refine n_getf (q := 218) (jj := 1) 66 1 1 rfl kX11_154 c5 ?_
          refine s_iload_n (q := 219) 67 1 rfl rfl ?_
          refine s_bipush (q := 221) 68 rfl ?_
          obtain ⟨c6, h⟩ := h
          refine n_isub (q := 222) 69 rfl c6 ?_
          obtain ⟨c7, h⟩ := h
          obtain ⟨c8, h⟩ := h
          refine n_iald (q := 223) 70 rfl c7 c8 ?_
          refine s_goto (tgt := 227) 71 rfl rfl ?_
          exact s_iret 73 rfl rfl h
    · skip
      have b1 := hb
      replace h := h.2 hb
      refine s_iload_n (q := 184) 48 1 rfl rfl ?_
      refine s_bipush (q := 186) 49 rfl ?_
      refine s_icmp_ge (q := 189) (tgt := 199) 50 rfl rfl (fun hb => ?_) (fun hb => ?_)
      · skip
        have b9 := hb
        replace h := h.1 hb
        refine s_iload_n (q := 200) 58 1 rfl rfl ?_
        refine s_bipush (q := 202) 59 rfl ?_
        refine s_icmp_lt (q := 205) (tgt := 226) 60 rfl rfl (fun hb => ?_) (fun hb => ?_)
        · skip
          have b10 := hb
          replace h := h.1 hb
          refine s_iconst (q := 227) 72 rfl ?_
          exact s_iret 73 rfl rfl h
        · skip
          have b10 := hb
          replace h := h.2 hb
          refine s_iload_n (q := 206) 61 1 rfl rfl ?_
          refine s_bipush (q := 208) 62 rfl ?_
          refine s_icmp_ge (q := 211) (tgt := 226) 63 rfl rfl (fun hb => ?_) (fun hb => ?_)
          · skip
            have b11 := hb
            replace h := h.1 hb
            refine s_iconst (q := 227) 72 rfl ?_
            exact s_iret 73 rfl rfl h
          · skip
            have b11 := hb
            replace h := h.2 hb
            refine s_aload_n (q := 212) 64 0 rfl rfl ?_
            obtain ⟨c12, h⟩ := h
            refine n_getf (q := 215) (jj := 0) 65 11 0 rfl kX11_10 c12 ?_
            obtain ⟨c13, h⟩ := h
            refine n_getf (q := 218) (jj := 1) 66 1 1 rfl kX11_154 c13 ?_
            refine s_iload_n (q := 219) 67 1 rfl rfl ?_
            refine s_bipush (q := 221) 68 rfl ?_
            obtain ⟨c14, h⟩ := h
            refine n_isub (q := 222) 69 rfl c14 ?_
            obtain ⟨c15, h⟩ := h
            obtain ⟨c16, h⟩ := h
            refine n_iald (q := 223) 70 rfl c15 c16 ?_
            refine s_goto (tgt := 227) 71 rfl rfl ?_
            exact s_iret 73 rfl rfl h
      · skip
        have b9 := hb
        replace h := h.2 hb
        refine s_aload_n (q := 190) 51 0 rfl rfl ?_
        obtain ⟨c17, h⟩ := h
        refine n_getf (q := 193) (jj := 13) 52 11 13 rfl kX11_87 c17 ?_
        refine s_iload_n (q := 194) 53 1 rfl rfl ?_
        refine s_bipush (q := 196) 54 rfl ?_
        obtain ⟨c18, h⟩ := h
        refine n_isub (q := 197) 55 rfl c18 ?_
        obtain ⟨c19, h⟩ := h
        obtain ⟨c20, h⟩ := h
        refine n_iald (q := 198) 56 rfl c19 c20 ?_
        exact s_iret 57 rfl rfl h
  obtain ⟨h0, h⟩ := h
  by_cases hs0 : x1 = 0
  · refine s_tableIn (tgt := 88) (off := 87) 1 rfl ⟨by rw [hs0]; decide, by rw [hs0]; decide⟩ (by rw [hs0]; rfl) rfl ?_
    replace h := h0 hs0
    refine s_aload_n (q := 89) 2 0 rfl rfl ?_
    obtain ⟨c21, h⟩ := h
    refine n_getf (q := 92) (jj := 0) 3 11 0 rfl kX11_10 c21 ?_
    obtain ⟨c22, h⟩ := h
    refine n_getf (q := 95) (jj := 0) 4 1 0 rfl kX11_125 c22 ?_
    obtain ⟨c23, h⟩ := h
    refine n_callV (N := mX0_operators) (as := []) (st := []) (q := 98) (d' := 0) 5 rfl uX0_operators kX11_279 rfl c23 ?_
    show PW l G 0 mX0_operators (0, 0) 0 [(0, (2, F (F x0 0) 0))] [] (n, K, F, E) _
    refine s_aload_n (q := 1) 0 0 rfl rfl ?_
    refine n_getf (q := 4) (jj := 0) 1 0 0 rfl kX0_11 c23 ?_
    refine s_iconst (q := 5) 2 rfl ?_
    obtain ⟨c24, h⟩ := h
    obtain ⟨c25, h⟩ := h
    refine n_iald (q := 6) 3 rfl c24 c25 ?_
    refine s_iret 4 rfl rfl ?_
    show PW l G 1 mX11_count bg 98 [(0, (2, x0)), (1, (0, x1))] [(0, E (F (F (F x0 0) 0) 0) 0)] (n, K, F, E) Q
    exact s_iret 6 rfl rfl h
  obtain ⟨h0, h⟩ := h
  by_cases hs1 : x1 = 1
  · refine s_tableIn (tgt := 99) (off := 98) 1 rfl ⟨by rw [hs1]; decide, by rw [hs1]; decide⟩ (by rw [hs1]; rfl) rfl ?_
    replace h := h0 hs1
    refine s_aload_n (q := 100) 7 0 rfl rfl ?_
    obtain ⟨c26, h⟩ := h
    refine n_getf (q := 103) (jj := 0) 8 11 0 rfl kX11_10 c26 ?_
    obtain ⟨c27, h⟩ := h
    refine n_getf (q := 106) (jj := 0) 9 1 0 rfl kX11_125 c27 ?_
    obtain ⟨c28, h⟩ := h
    refine n_callV (N := mX0_latestStamp) (as := []) (st := []) (q := 109) (d' := 0) 10 rfl uX0_latestStamp kX11_326 rfl c28 ?_
    show PW l G 0 mX0_latestStamp (0, 0) 0 [(0, (2, F (F x0 0) 0))] [] (n, K, F, E) _
    refine s_aload_n (q := 1) 0 0 rfl rfl ?_
    refine n_getf (q := 4) (jj := 0) 1 0 0 rfl kX0_11 c28 ?_
    refine s_iconst (q := 5) 2 rfl ?_
    obtain ⟨c29, h⟩ := h
    obtain ⟨c30, h⟩ := h
    refine n_iald (q := 6) 3 rfl c29 c30 ?_
    refine s_iret 4 rfl rfl ?_
    show PW l G 1 mX11_count bg 109 [(0, (2, x0)), (1, (0, x1))] [(0, E (F (F (F x0 0) 0) 0) 1)] (n, K, F, E) Q
    exact s_iret 11 rfl rfl h
  obtain ⟨h0, h⟩ := h
  by_cases hs2 : x1 = 2
  · refine s_tableIn (tgt := 110) (off := 109) 1 rfl ⟨by rw [hs2]; decide, by rw [hs2]; decide⟩ (by rw [hs2]; rfl) rfl ?_
    replace h := h0 hs2
    refine s_aload_n (q := 111) 12 0 rfl rfl ?_
    obtain ⟨c31, h⟩ := h
    refine n_getf (q := 114) (jj := 0) 13 11 0 rfl kX11_10 c31 ?_
    obtain ⟨c32, h⟩ := h
    refine n_getf (q := 117) (jj := 0) 14 1 0 rfl kX11_125 c32 ?_
    obtain ⟨c33, h⟩ := h
    refine n_callV (N := mX0_resultsEver) (as := []) (st := []) (q := 120) (d' := 0) 15 rfl uX0_resultsEver kX11_320 rfl c33 ?_
    show PW l G 0 mX0_resultsEver (0, 0) 0 [(0, (2, F (F x0 0) 0))] [] (n, K, F, E) _
    refine s_aload_n (q := 1) 0 0 rfl rfl ?_
    refine n_getf (q := 4) (jj := 0) 1 0 0 rfl kX0_11 c33 ?_
    refine s_iconst (q := 5) 2 rfl ?_
    obtain ⟨c34, h⟩ := h
    obtain ⟨c35, h⟩ := h
    refine n_iald (q := 6) 3 rfl c34 c35 ?_
    refine s_iret 4 rfl rfl ?_
    show PW l G 1 mX11_count bg 120 [(0, (2, x0)), (1, (0, x1))] [(0, E (F (F (F x0 0) 0) 0) 2)] (n, K, F, E) Q
    exact s_iret 16 rfl rfl h
  obtain ⟨h0, h⟩ := h
  by_cases hs3 : x1 = 3
  · refine s_tableIn (tgt := 121) (off := 120) 1 rfl ⟨by rw [hs3]; decide, by rw [hs3]; decide⟩ (by rw [hs3]; rfl) rfl ?_
    replace h := h0 hs3
    refine s_aload_n (q := 122) 17 0 rfl rfl ?_
    obtain ⟨c36, h⟩ := h
    refine n_getf (q := 125) (jj := 0) 18 11 0 rfl kX11_10 c36 ?_
    obtain ⟨c37, h⟩ := h
    refine n_getf (q := 128) (jj := 4) 19 1 4 rfl kX11_291 c37 ?_
    exact s_iret 20 rfl rfl h
  obtain ⟨h0, h⟩ := h
  by_cases hs4 : x1 = 4
  · refine s_tableIn (tgt := 129) (off := 128) 1 rfl ⟨by rw [hs4]; decide, by rw [hs4]; decide⟩ (by rw [hs4]; rfl) rfl ?_
    replace h := h0 hs4
    refine s_aload_n (q := 130) 21 0 rfl rfl ?_
    obtain ⟨c38, h⟩ := h
    refine n_getf (q := 133) (jj := 0) 22 11 0 rfl kX11_10 c38 ?_
    obtain ⟨c39, h⟩ := h
    refine n_getf (q := 136) (jj := 6) 23 1 6 rfl kX11_179 c39 ?_
    exact s_iret 24 rfl rfl h
  obtain ⟨h0, h⟩ := h
  by_cases hs5 : x1 = 5
  · refine s_tableIn (tgt := 137) (off := 136) 1 rfl ⟨by rw [hs5]; decide, by rw [hs5]; decide⟩ (by rw [hs5]; rfl) rfl ?_
    replace h := h0 hs5
    refine s_aload_n (q := 138) 25 0 rfl rfl ?_
    obtain ⟨c40, h⟩ := h
    refine n_getf (q := 141) (jj := 3) 26 11 3 rfl kX11_27 c40 ?_
    obtain ⟨c41, h⟩ := h
    refine n_getf (q := 144) (jj := 3) 27 3 3 rfl kX11_176 c41 ?_
    exact s_iret 28 rfl rfl h
  obtain ⟨h0, h⟩ := h
  by_cases hs6 : x1 = 6
  · refine s_tableIn (tgt := 145) (off := 144) 1 rfl ⟨by rw [hs6]; decide, by rw [hs6]; decide⟩ (by rw [hs6]; rfl) rfl ?_
    replace h := h0 hs6
    refine s_aload_n (q := 146) 29 0 rfl rfl ?_
    obtain ⟨c42, h⟩ := h
    refine n_getf (q := 149) (jj := 9) 30 11 9 rfl kX11_65 c42 ?_
    obtain ⟨c43, h⟩ := h
    refine n_getf (q := 152) (jj := 1) 31 8 1 rfl kX11_160 c43 ?_
    exact s_iret 32 rfl rfl h
  obtain ⟨h0, h⟩ := h
  by_cases hs7 : x1 = 7
  · refine s_tableIn (tgt := 177) (off := 176) 1 rfl ⟨by rw [hs7]; decide, by rw [hs7]; decide⟩ (by rw [hs7]; rfl) rfl ?_
    replace h := h0 hs7
    refine s_iload_n (q := 178) 45 1 rfl rfl ?_
    refine s_bipush (q := 180) 46 rfl ?_
    refine s_icmp_lt (q := 183) (tgt := 199) 47 rfl rfl (fun hb => ?_) (fun hb => ?_)
    · skip
      have b44 := hb
      replace h := h.1 hb
      refine s_iload_n (q := 200) 58 1 rfl rfl ?_
      refine s_bipush (q := 202) 59 rfl ?_
      refine s_icmp_lt (q := 205) (tgt := 226) 60 rfl rfl (fun hb => ?_) (fun hb => ?_)
      · skip
        have b45 := hb
        replace h := h.1 hb
        refine s_iconst (q := 227) 72 rfl ?_
        exact s_iret 73 rfl rfl h
      · skip
        have b45 := hb
        replace h := h.2 hb
        refine s_iload_n (q := 206) 61 1 rfl rfl ?_
        refine s_bipush (q := 208) 62 rfl ?_
        refine s_icmp_ge (q := 211) (tgt := 226) 63 rfl rfl (fun hb => ?_) (fun hb => ?_)
        · skip
          have b46 := hb
          replace h := h.1 hb
          refine s_iconst (q := 227) 72 rfl ?_
          exact s_iret 73 rfl rfl h
        · skip
          have b46 := hb
          replace h := h.2 hb
          refine s_aload_n (q := 212) 64 0 rfl rfl ?_
          obtain ⟨c47, h⟩ := h
          refine n_getf (q := 215) (jj := 0) 65 11 0 rfl kX11_10 c47 ?_
          obtain ⟨c48, h⟩ := h
          refine n_getf (q := 218) (jj := 1) 66 1 1 rfl kX11_154 c48 ?_
          refine s_iload_n (q := 219) 67 1 rfl rfl ?_
          refine s_bipush (q := 221) 68 rfl ?_
          obtain ⟨c49, h⟩ := h
          refine n_isub (q := 222) 69 rfl c49 ?_
          obtain ⟨c50, h⟩ := h
          obtain ⟨c51, h⟩ := h
          refine n_iald (q := 223) 70 rfl c50 c51 ?_
          refine s_goto (tgt := 227) 71 rfl rfl ?_
          exact s_iret 73 rfl rfl h
    · skip
      have b44 := hb
      replace h := h.2 hb
      refine s_iload_n (q := 184) 48 1 rfl rfl ?_
      refine s_bipush (q := 186) 49 rfl ?_
      refine s_icmp_ge (q := 189) (tgt := 199) 50 rfl rfl (fun hb => ?_) (fun hb => ?_)
      · skip
        have b52 := hb
        replace h := h.1 hb
        refine s_iload_n (q := 200) 58 1 rfl rfl ?_
        refine s_bipush (q := 202) 59 rfl ?_
        refine s_icmp_lt (q := 205) (tgt := 226) 60 rfl rfl (fun hb => ?_) (fun hb => ?_)
        · skip
          have b53 := hb
          replace h := h.1 hb
          refine s_iconst (q := 227) 72 rfl ?_
          exact s_iret 73 rfl rfl h
        · skip
          have b53 := hb
          replace h := h.2 hb
          refine s_iload_n (q := 206) 61 1 rfl rfl ?_
          refine s_bipush (q := 208) 62 rfl ?_
          refine s_icmp_ge (q := 211) (tgt := 226) 63 rfl rfl (fun hb => ?_) (fun hb => ?_)
          · skip
            have b54 := hb
            replace h := h.1 hb
            refine s_iconst (q := 227) 72 rfl ?_
            exact s_iret 73 rfl rfl h
          · skip
            have b54 := hb
            replace h := h.2 hb
            refine s_aload_n (q := 212) 64 0 rfl rfl ?_
            obtain ⟨c55, h⟩ := h
            refine n_getf (q := 215) (jj := 0) 65 11 0 rfl kX11_10 c55 ?_
            obtain ⟨c56, h⟩ := h
            refine n_getf (q := 218) (jj := 1) 66 1 1 rfl kX11_154 c56 ?_
            refine s_iload_n (q := 219) 67 1 rfl rfl ?_
            refine s_bipush (q := 221) 68 rfl ?_
            obtain ⟨c57, h⟩ := h
            refine n_isub (q := 222) 69 rfl c57 ?_
            obtain ⟨c58, h⟩ := h
            obtain ⟨c59, h⟩ := h
            refine n_iald (q := 223) 70 rfl c58 c59 ?_
            refine s_goto (tgt := 227) 71 rfl rfl ?_
            exact s_iret 73 rfl rfl h
      · skip
        have b52 := hb
        replace h := h.2 hb
        refine s_aload_n (q := 190) 51 0 rfl rfl ?_
        obtain ⟨c60, h⟩ := h
        refine n_getf (q := 193) (jj := 13) 52 11 13 rfl kX11_87 c60 ?_
        refine s_iload_n (q := 194) 53 1 rfl rfl ?_
        refine s_bipush (q := 196) 54 rfl ?_
        obtain ⟨c61, h⟩ := h
        refine n_isub (q := 197) 55 rfl c61 ?_
        obtain ⟨c62, h⟩ := h
        obtain ⟨c63, h⟩ := h
        refine n_iald (q := 198) 56 rfl c62 c63 ?_
        exact s_iret 57 rfl rfl h
  obtain ⟨h0, h⟩ := h
  by_cases hs8 : x1 = 8
  · refine s_tableIn (tgt := 177) (off := 176) 1 rfl ⟨by rw [hs8]; decide, by rw [hs8]; decide⟩ (by rw [hs8]; rfl) rfl ?_
    replace h := h0 hs8
    refine s_iload_n (q := 178) 45 1 rfl rfl ?_
    refine s_bipush (q := 180) 46 rfl ?_
    refine s_icmp_lt (q := 183) (tgt := 199) 47 rfl rfl (fun hb => ?_) (fun hb => ?_)
    · skip
      have b64 := hb
      replace h := h.1 hb
      refine s_iload_n (q := 200) 58 1 rfl rfl ?_
      refine s_bipush (q := 202) 59 rfl ?_
      refine s_icmp_lt (q := 205) (tgt := 226) 60 rfl rfl (fun hb => ?_) (fun hb => ?_)
      · skip
        have b65 := hb
        replace h := h.1 hb
        refine s_iconst (q := 227) 72 rfl ?_
        exact s_iret 73 rfl rfl h
      · skip
        have b65 := hb
        replace h := h.2 hb
        refine s_iload_n (q := 206) 61 1 rfl rfl ?_
        refine s_bipush (q := 208) 62 rfl ?_
        refine s_icmp_ge (q := 211) (tgt := 226) 63 rfl rfl (fun hb => ?_) (fun hb => ?_)
        · skip
          have b66 := hb
          replace h := h.1 hb
          refine s_iconst (q := 227) 72 rfl ?_
          exact s_iret 73 rfl rfl h
        · skip
          have b66 := hb
          replace h := h.2 hb
          refine s_aload_n (q := 212) 64 0 rfl rfl ?_
          obtain ⟨c67, h⟩ := h
          refine n_getf (q := 215) (jj := 0) 65 11 0 rfl kX11_10 c67 ?_
          obtain ⟨c68, h⟩ := h
          refine n_getf (q := 218) (jj := 1) 66 1 1 rfl kX11_154 c68 ?_
          refine s_iload_n (q := 219) 67 1 rfl rfl ?_
          refine s_bipush (q := 221) 68 rfl ?_
          obtain ⟨c69, h⟩ := h
          refine n_isub (q := 222) 69 rfl c69 ?_
          obtain ⟨c70, h⟩ := h
          obtain ⟨c71, h⟩ := h
          refine n_iald (q := 223) 70 rfl c70 c71 ?_
          refine s_goto (tgt := 227) 71 rfl rfl ?_
          exact s_iret 73 rfl rfl h
    · skip
      have b64 := hb
      replace h := h.2 hb
      refine s_iload_n (q := 184) 48 1 rfl rfl ?_
      refine s_bipush (q := 186) 49 rfl ?_
      refine s_icmp_ge (q := 189) (tgt := 199) 50 rfl rfl (fun hb => ?_) (fun hb => ?_)
      · skip
        have b72 := hb
        replace h := h.1 hb
        refine s_iload_n (q := 200) 58 1 rfl rfl ?_
        refine s_bipush (q := 202) 59 rfl ?_
        refine s_icmp_lt (q := 205) (tgt := 226) 60 rfl rfl (fun hb => ?_) (fun hb => ?_)
        · skip
          have b73 := hb
          replace h := h.1 hb
          refine s_iconst (q := 227) 72 rfl ?_
          exact s_iret 73 rfl rfl h
        · skip
          have b73 := hb
          replace h := h.2 hb
          refine s_iload_n (q := 206) 61 1 rfl rfl ?_
          refine s_bipush (q := 208) 62 rfl ?_
          refine s_icmp_ge (q := 211) (tgt := 226) 63 rfl rfl (fun hb => ?_) (fun hb => ?_)
          · skip
            have b74 := hb
            replace h := h.1 hb
            refine s_iconst (q := 227) 72 rfl ?_
            exact s_iret 73 rfl rfl h
          · skip
            have b74 := hb
            replace h := h.2 hb
            refine s_aload_n (q := 212) 64 0 rfl rfl ?_
            obtain ⟨c75, h⟩ := h
            refine n_getf (q := 215) (jj := 0) 65 11 0 rfl kX11_10 c75 ?_
            obtain ⟨c76, h⟩ := h
            refine n_getf (q := 218) (jj := 1) 66 1 1 rfl kX11_154 c76 ?_
            refine s_iload_n (q := 219) 67 1 rfl rfl ?_
            refine s_bipush (q := 221) 68 rfl ?_
            obtain ⟨c77, h⟩ := h
            refine n_isub (q := 222) 69 rfl c77 ?_
            obtain ⟨c78, h⟩ := h
            obtain ⟨c79, h⟩ := h
            refine n_iald (q := 223) 70 rfl c78 c79 ?_
            refine s_goto (tgt := 227) 71 rfl rfl ?_
            exact s_iret 73 rfl rfl h
      · skip
        have b72 := hb
        replace h := h.2 hb
        refine s_aload_n (q := 190) 51 0 rfl rfl ?_
        obtain ⟨c80, h⟩ := h
        refine n_getf (q := 193) (jj := 13) 52 11 13 rfl kX11_87 c80 ?_
        refine s_iload_n (q := 194) 53 1 rfl rfl ?_
        refine s_bipush (q := 196) 54 rfl ?_
        obtain ⟨c81, h⟩ := h
        refine n_isub (q := 197) 55 rfl c81 ?_
        obtain ⟨c82, h⟩ := h
        obtain ⟨c83, h⟩ := h
        refine n_iald (q := 198) 56 rfl c82 c83 ?_
        exact s_iret 57 rfl rfl h
  obtain ⟨h0, h⟩ := h
  by_cases hs9 : x1 = 9
  · refine s_tableIn (tgt := 177) (off := 176) 1 rfl ⟨by rw [hs9]; decide, by rw [hs9]; decide⟩ (by rw [hs9]; rfl) rfl ?_
    replace h := h0 hs9
    refine s_iload_n (q := 178) 45 1 rfl rfl ?_
    refine s_bipush (q := 180) 46 rfl ?_
    refine s_icmp_lt (q := 183) (tgt := 199) 47 rfl rfl (fun hb => ?_) (fun hb => ?_)
    · skip
      have b84 := hb
      replace h := h.1 hb
      refine s_iload_n (q := 200) 58 1 rfl rfl ?_
      refine s_bipush (q := 202) 59 rfl ?_
      refine s_icmp_lt (q := 205) (tgt := 226) 60 rfl rfl (fun hb => ?_) (fun hb => ?_)
      · skip
        have b85 := hb
        replace h := h.1 hb
        refine s_iconst (q := 227) 72 rfl ?_
        exact s_iret 73 rfl rfl h
      · skip
        have b85 := hb
        replace h := h.2 hb
        refine s_iload_n (q := 206) 61 1 rfl rfl ?_
        refine s_bipush (q := 208) 62 rfl ?_
        refine s_icmp_ge (q := 211) (tgt := 226) 63 rfl rfl (fun hb => ?_) (fun hb => ?_)
        · skip
          have b86 := hb
          replace h := h.1 hb
          refine s_iconst (q := 227) 72 rfl ?_
          exact s_iret 73 rfl rfl h
        · skip
          have b86 := hb
          replace h := h.2 hb
          refine s_aload_n (q := 212) 64 0 rfl rfl ?_
          obtain ⟨c87, h⟩ := h
          refine n_getf (q := 215) (jj := 0) 65 11 0 rfl kX11_10 c87 ?_
          obtain ⟨c88, h⟩ := h
          refine n_getf (q := 218) (jj := 1) 66 1 1 rfl kX11_154 c88 ?_
          refine s_iload_n (q := 219) 67 1 rfl rfl ?_
          refine s_bipush (q := 221) 68 rfl ?_
          obtain ⟨c89, h⟩ := h
          refine n_isub (q := 222) 69 rfl c89 ?_
          obtain ⟨c90, h⟩ := h
          obtain ⟨c91, h⟩ := h
          refine n_iald (q := 223) 70 rfl c90 c91 ?_
          refine s_goto (tgt := 227) 71 rfl rfl ?_
          exact s_iret 73 rfl rfl h
    · skip
      have b84 := hb
      replace h := h.2 hb
      refine s_iload_n (q := 184) 48 1 rfl rfl ?_
      refine s_bipush (q := 186) 49 rfl ?_
      refine s_icmp_ge (q := 189) (tgt := 199) 50 rfl rfl (fun hb => ?_) (fun hb => ?_)
      · skip
        have b92 := hb
        replace h := h.1 hb
        refine s_iload_n (q := 200) 58 1 rfl rfl ?_
        refine s_bipush (q := 202) 59 rfl ?_
        refine s_icmp_lt (q := 205) (tgt := 226) 60 rfl rfl (fun hb => ?_) (fun hb => ?_)
        · skip
          have b93 := hb
          replace h := h.1 hb
          refine s_iconst (q := 227) 72 rfl ?_
          exact s_iret 73 rfl rfl h
        · skip
          have b93 := hb
          replace h := h.2 hb
          refine s_iload_n (q := 206) 61 1 rfl rfl ?_
          refine s_bipush (q := 208) 62 rfl ?_
          refine s_icmp_ge (q := 211) (tgt := 226) 63 rfl rfl (fun hb => ?_) (fun hb => ?_)
          · skip
            have b94 := hb
            replace h := h.1 hb
            refine s_iconst (q := 227) 72 rfl ?_
            exact s_iret 73 rfl rfl h
          · skip
            have b94 := hb
            replace h := h.2 hb
            refine s_aload_n (q := 212) 64 0 rfl rfl ?_
            obtain ⟨c95, h⟩ := h
            refine n_getf (q := 215) (jj := 0) 65 11 0 rfl kX11_10 c95 ?_
            obtain ⟨c96, h⟩ := h
            refine n_getf (q := 218) (jj := 1) 66 1 1 rfl kX11_154 c96 ?_
            refine s_iload_n (q := 219) 67 1 rfl rfl ?_
            refine s_bipush (q := 221) 68 rfl ?_
            obtain ⟨c97, h⟩ := h
            refine n_isub (q := 222) 69 rfl c97 ?_
            obtain ⟨c98, h⟩ := h
            obtain ⟨c99, h⟩ := h
            refine n_iald (q := 223) 70 rfl c98 c99 ?_
            refine s_goto (tgt := 227) 71 rfl rfl ?_
            exact s_iret 73 rfl rfl h
      · skip
        have b92 := hb
        replace h := h.2 hb
        refine s_aload_n (q := 190) 51 0 rfl rfl ?_
        obtain ⟨c100, h⟩ := h
        refine n_getf (q := 193) (jj := 13) 52 11 13 rfl kX11_87 c100 ?_
        refine s_iload_n (q := 194) 53 1 rfl rfl ?_
        refine s_bipush (q := 196) 54 rfl ?_
        obtain ⟨c101, h⟩ := h
        refine n_isub (q := 197) 55 rfl c101 ?_
        obtain ⟨c102, h⟩ := h
        obtain ⟨c103, h⟩ := h
        refine n_iald (q := 198) 56 rfl c102 c103 ?_
        exact s_iret 57 rfl rfl h
  obtain ⟨h0, h⟩ := h
  by_cases hs10 : x1 = 10
  · refine s_tableIn (tgt := 177) (off := 176) 1 rfl ⟨by rw [hs10]; decide, by rw [hs10]; decide⟩ (by rw [hs10]; rfl) rfl ?_
    replace h := h0 hs10
    refine s_iload_n (q := 178) 45 1 rfl rfl ?_
    refine s_bipush (q := 180) 46 rfl ?_
    refine s_icmp_lt (q := 183) (tgt := 199) 47 rfl rfl (fun hb => ?_) (fun hb => ?_)
    · skip
      have b104 := hb
      replace h := h.1 hb
      refine s_iload_n (q := 200) 58 1 rfl rfl ?_
      refine s_bipush (q := 202) 59 rfl ?_
      refine s_icmp_lt (q := 205) (tgt := 226) 60 rfl rfl (fun hb => ?_) (fun hb => ?_)
      · skip
        have b105 := hb
        replace h := h.1 hb
        refine s_iconst (q := 227) 72 rfl ?_
        exact s_iret 73 rfl rfl h
      · skip
        have b105 := hb
        replace h := h.2 hb
        refine s_iload_n (q := 206) 61 1 rfl rfl ?_
        refine s_bipush (q := 208) 62 rfl ?_
        refine s_icmp_ge (q := 211) (tgt := 226) 63 rfl rfl (fun hb => ?_) (fun hb => ?_)
        · skip
          have b106 := hb
          replace h := h.1 hb
          refine s_iconst (q := 227) 72 rfl ?_
          exact s_iret 73 rfl rfl h
        · skip
          have b106 := hb
          replace h := h.2 hb
          refine s_aload_n (q := 212) 64 0 rfl rfl ?_
          obtain ⟨c107, h⟩ := h
          refine n_getf (q := 215) (jj := 0) 65 11 0 rfl kX11_10 c107 ?_
          obtain ⟨c108, h⟩ := h
          refine n_getf (q := 218) (jj := 1) 66 1 1 rfl kX11_154 c108 ?_
          refine s_iload_n (q := 219) 67 1 rfl rfl ?_
          refine s_bipush (q := 221) 68 rfl ?_
          obtain ⟨c109, h⟩ := h
          refine n_isub (q := 222) 69 rfl c109 ?_
          obtain ⟨c110, h⟩ := h
          obtain ⟨c111, h⟩ := h
          refine n_iald (q := 223) 70 rfl c110 c111 ?_
          refine s_goto (tgt := 227) 71 rfl rfl ?_
          exact s_iret 73 rfl rfl h
    · skip
      have b104 := hb
      replace h := h.2 hb
      refine s_iload_n (q := 184) 48 1 rfl rfl ?_
      refine s_bipush (q := 186) 49 rfl ?_
      refine s_icmp_ge (q := 189) (tgt := 199) 50 rfl rfl (fun hb => ?_) (fun hb => ?_)
      · skip
        have b112 := hb
        replace h := h.1 hb
        refine s_iload_n (q := 200) 58 1 rfl rfl ?_
        refine s_bipush (q := 202) 59 rfl ?_
        refine s_icmp_lt (q := 205) (tgt := 226) 60 rfl rfl (fun hb => ?_) (fun hb => ?_)
        · skip
          have b113 := hb
          replace h := h.1 hb
          refine s_iconst (q := 227) 72 rfl ?_
          exact s_iret 73 rfl rfl h
        · skip
          have b113 := hb
          replace h := h.2 hb
          refine s_iload_n (q := 206) 61 1 rfl rfl ?_
          refine s_bipush (q := 208) 62 rfl ?_
          refine s_icmp_ge (q := 211) (tgt := 226) 63 rfl rfl (fun hb => ?_) (fun hb => ?_)
          · skip
            have b114 := hb
            replace h := h.1 hb
            refine s_iconst (q := 227) 72 rfl ?_
            exact s_iret 73 rfl rfl h
          · skip
            have b114 := hb
            replace h := h.2 hb
            refine s_aload_n (q := 212) 64 0 rfl rfl ?_
            obtain ⟨c115, h⟩ := h
            refine n_getf (q := 215) (jj := 0) 65 11 0 rfl kX11_10 c115 ?_
            obtain ⟨c116, h⟩ := h
            refine n_getf (q := 218) (jj := 1) 66 1 1 rfl kX11_154 c116 ?_
            refine s_iload_n (q := 219) 67 1 rfl rfl ?_
            refine s_bipush (q := 221) 68 rfl ?_
            obtain ⟨c117, h⟩ := h
            refine n_isub (q := 222) 69 rfl c117 ?_
            obtain ⟨c118, h⟩ := h
            obtain ⟨c119, h⟩ := h
            refine n_iald (q := 223) 70 rfl c118 c119 ?_
            refine s_goto (tgt := 227) 71 rfl rfl ?_
            exact s_iret 73 rfl rfl h
      · skip
        have b112 := hb
        replace h := h.2 hb
        refine s_aload_n (q := 190) 51 0 rfl rfl ?_
        obtain ⟨c120, h⟩ := h
        refine n_getf (q := 193) (jj := 13) 52 11 13 rfl kX11_87 c120 ?_
        refine s_iload_n (q := 194) 53 1 rfl rfl ?_
        refine s_bipush (q := 196) 54 rfl ?_
        obtain ⟨c121, h⟩ := h
        refine n_isub (q := 197) 55 rfl c121 ?_
        obtain ⟨c122, h⟩ := h
        obtain ⟨c123, h⟩ := h
        refine n_iald (q := 198) 56 rfl c122 c123 ?_
        exact s_iret 57 rfl rfl h
  obtain ⟨h0, h⟩ := h
  by_cases hs11 : x1 = 11
  · refine s_tableIn (tgt := 177) (off := 176) 1 rfl ⟨by rw [hs11]; decide, by rw [hs11]; decide⟩ (by rw [hs11]; rfl) rfl ?_
    replace h := h0 hs11
    refine s_iload_n (q := 178) 45 1 rfl rfl ?_
    refine s_bipush (q := 180) 46 rfl ?_
    refine s_icmp_lt (q := 183) (tgt := 199) 47 rfl rfl (fun hb => ?_) (fun hb => ?_)
    · skip
      have b124 := hb
      replace h := h.1 hb
      refine s_iload_n (q := 200) 58 1 rfl rfl ?_
      refine s_bipush (q := 202) 59 rfl ?_
      refine s_icmp_lt (q := 205) (tgt := 226) 60 rfl rfl (fun hb => ?_) (fun hb => ?_)
      · skip
        have b125 := hb
        replace h := h.1 hb
        refine s_iconst (q := 227) 72 rfl ?_
        exact s_iret 73 rfl rfl h
      · skip
        have b125 := hb
        replace h := h.2 hb
        refine s_iload_n (q := 206) 61 1 rfl rfl ?_
        refine s_bipush (q := 208) 62 rfl ?_
        refine s_icmp_ge (q := 211) (tgt := 226) 63 rfl rfl (fun hb => ?_) (fun hb => ?_)
        · skip
          have b126 := hb
          replace h := h.1 hb
          refine s_iconst (q := 227) 72 rfl ?_
          exact s_iret 73 rfl rfl h
        · skip
          have b126 := hb
          replace h := h.2 hb
          refine s_aload_n (q := 212) 64 0 rfl rfl ?_
          obtain ⟨c127, h⟩ := h
          refine n_getf (q := 215) (jj := 0) 65 11 0 rfl kX11_10 c127 ?_
          obtain ⟨c128, h⟩ := h
          refine n_getf (q := 218) (jj := 1) 66 1 1 rfl kX11_154 c128 ?_
          refine s_iload_n (q := 219) 67 1 rfl rfl ?_
          refine s_bipush (q := 221) 68 rfl ?_
          obtain ⟨c129, h⟩ := h
          refine n_isub (q := 222) 69 rfl c129 ?_
          obtain ⟨c130, h⟩ := h
          obtain ⟨c131, h⟩ := h
          refine n_iald (q := 223) 70 rfl c130 c131 ?_
          refine s_goto (tgt := 227) 71 rfl rfl ?_
          exact s_iret 73 rfl rfl h
    · skip
      have b124 := hb
      replace h := h.2 hb
      refine s_iload_n (q := 184) 48 1 rfl rfl ?_
      refine s_bipush (q := 186) 49 rfl ?_
      refine s_icmp_ge (q := 189) (tgt := 199) 50 rfl rfl (fun hb => ?_) (fun hb => ?_)
      · skip
        have b132 := hb
        replace h := h.1 hb
        refine s_iload_n (q := 200) 58 1 rfl rfl ?_
        refine s_bipush (q := 202) 59 rfl ?_
        refine s_icmp_lt (q := 205) (tgt := 226) 60 rfl rfl (fun hb => ?_) (fun hb => ?_)
        · skip
          have b133 := hb
          replace h := h.1 hb
          refine s_iconst (q := 227) 72 rfl ?_
          exact s_iret 73 rfl rfl h
        · skip
          have b133 := hb
          replace h := h.2 hb
          refine s_iload_n (q := 206) 61 1 rfl rfl ?_
          refine s_bipush (q := 208) 62 rfl ?_
          refine s_icmp_ge (q := 211) (tgt := 226) 63 rfl rfl (fun hb => ?_) (fun hb => ?_)
          · skip
            have b134 := hb
            replace h := h.1 hb
            refine s_iconst (q := 227) 72 rfl ?_
            exact s_iret 73 rfl rfl h
          · skip
            have b134 := hb
            replace h := h.2 hb
            refine s_aload_n (q := 212) 64 0 rfl rfl ?_
            obtain ⟨c135, h⟩ := h
            refine n_getf (q := 215) (jj := 0) 65 11 0 rfl kX11_10 c135 ?_
            obtain ⟨c136, h⟩ := h
            refine n_getf (q := 218) (jj := 1) 66 1 1 rfl kX11_154 c136 ?_
            refine s_iload_n (q := 219) 67 1 rfl rfl ?_
            refine s_bipush (q := 221) 68 rfl ?_
            obtain ⟨c137, h⟩ := h
            refine n_isub (q := 222) 69 rfl c137 ?_
            obtain ⟨c138, h⟩ := h
            obtain ⟨c139, h⟩ := h
            refine n_iald (q := 223) 70 rfl c138 c139 ?_
            refine s_goto (tgt := 227) 71 rfl rfl ?_
            exact s_iret 73 rfl rfl h
      · skip
        have b132 := hb
        replace h := h.2 hb
        refine s_aload_n (q := 190) 51 0 rfl rfl ?_
        obtain ⟨c140, h⟩ := h
        refine n_getf (q := 193) (jj := 13) 52 11 13 rfl kX11_87 c140 ?_
        refine s_iload_n (q := 194) 53 1 rfl rfl ?_
        refine s_bipush (q := 196) 54 rfl ?_
        obtain ⟨c141, h⟩ := h
        refine n_isub (q := 197) 55 rfl c141 ?_
        obtain ⟨c142, h⟩ := h
        obtain ⟨c143, h⟩ := h
        refine n_iald (q := 198) 56 rfl c142 c143 ?_
        exact s_iret 57 rfl rfl h
  obtain ⟨h0, h⟩ := h
  by_cases hs12 : x1 = 12
  · refine s_tableIn (tgt := 153) (off := 152) 1 rfl ⟨by rw [hs12]; decide, by rw [hs12]; decide⟩ (by rw [hs12]; rfl) rfl ?_
    replace h := h0 hs12
    refine s_aload_n (q := 154) 33 0 rfl rfl ?_
    obtain ⟨c144, h⟩ := h
    refine n_getf (q := 157) (jj := 0) 34 11 0 rfl kX11_10 c144 ?_
    obtain ⟨c145, h⟩ := h
    refine n_getf (q := 160) (jj := 7) 35 1 7 rfl kX11_225 c145 ?_
    exact s_iret 36 rfl rfl h
  obtain ⟨h0, h⟩ := h
  by_cases hs13 : x1 = 13
  · refine s_tableIn (tgt := 177) (off := 176) 1 rfl ⟨by rw [hs13]; decide, by rw [hs13]; decide⟩ (by rw [hs13]; rfl) rfl ?_
    replace h := h0 hs13
    refine s_iload_n (q := 178) 45 1 rfl rfl ?_
    refine s_bipush (q := 180) 46 rfl ?_
    refine s_icmp_lt (q := 183) (tgt := 199) 47 rfl rfl (fun hb => ?_) (fun hb => ?_)
    · skip
      have b146 := hb
      replace h := h.1 hb
      refine s_iload_n (q := 200) 58 1 rfl rfl ?_
      refine s_bipush (q := 202) 59 rfl ?_
      refine s_icmp_lt (q := 205) (tgt := 226) 60 rfl rfl (fun hb => ?_) (fun hb => ?_)
      · skip
        have b147 := hb
        replace h := h.1 hb
        refine s_iconst (q := 227) 72 rfl ?_
        exact s_iret 73 rfl rfl h
      · skip
        have b147 := hb
        replace h := h.2 hb
        refine s_iload_n (q := 206) 61 1 rfl rfl ?_
        refine s_bipush (q := 208) 62 rfl ?_
        refine s_icmp_ge (q := 211) (tgt := 226) 63 rfl rfl (fun hb => ?_) (fun hb => ?_)
        · skip
          have b148 := hb
          replace h := h.1 hb
          refine s_iconst (q := 227) 72 rfl ?_
          exact s_iret 73 rfl rfl h
        · skip
          have b148 := hb
          replace h := h.2 hb
          refine s_aload_n (q := 212) 64 0 rfl rfl ?_
          obtain ⟨c149, h⟩ := h
          refine n_getf (q := 215) (jj := 0) 65 11 0 rfl kX11_10 c149 ?_
          obtain ⟨c150, h⟩ := h
          refine n_getf (q := 218) (jj := 1) 66 1 1 rfl kX11_154 c150 ?_
          refine s_iload_n (q := 219) 67 1 rfl rfl ?_
          refine s_bipush (q := 221) 68 rfl ?_
          obtain ⟨c151, h⟩ := h
          refine n_isub (q := 222) 69 rfl c151 ?_
          obtain ⟨c152, h⟩ := h
          obtain ⟨c153, h⟩ := h
          refine n_iald (q := 223) 70 rfl c152 c153 ?_
          refine s_goto (tgt := 227) 71 rfl rfl ?_
          exact s_iret 73 rfl rfl h
    · skip
      have b146 := hb
      replace h := h.2 hb
      refine s_iload_n (q := 184) 48 1 rfl rfl ?_
      refine s_bipush (q := 186) 49 rfl ?_
      refine s_icmp_ge (q := 189) (tgt := 199) 50 rfl rfl (fun hb => ?_) (fun hb => ?_)
      · skip
        have b154 := hb
        replace h := h.1 hb
        refine s_iload_n (q := 200) 58 1 rfl rfl ?_
        refine s_bipush (q := 202) 59 rfl ?_
        refine s_icmp_lt (q := 205) (tgt := 226) 60 rfl rfl (fun hb => ?_) (fun hb => ?_)
        · skip
          have b155 := hb
          replace h := h.1 hb
          refine s_iconst (q := 227) 72 rfl ?_
          exact s_iret 73 rfl rfl h
        · skip
          have b155 := hb
          replace h := h.2 hb
          refine s_iload_n (q := 206) 61 1 rfl rfl ?_
          refine s_bipush (q := 208) 62 rfl ?_
          refine s_icmp_ge (q := 211) (tgt := 226) 63 rfl rfl (fun hb => ?_) (fun hb => ?_)
          · skip
            have b156 := hb
            replace h := h.1 hb
            refine s_iconst (q := 227) 72 rfl ?_
            exact s_iret 73 rfl rfl h
          · skip
            have b156 := hb
            replace h := h.2 hb
            refine s_aload_n (q := 212) 64 0 rfl rfl ?_
            obtain ⟨c157, h⟩ := h
            refine n_getf (q := 215) (jj := 0) 65 11 0 rfl kX11_10 c157 ?_
            obtain ⟨c158, h⟩ := h
            refine n_getf (q := 218) (jj := 1) 66 1 1 rfl kX11_154 c158 ?_
            refine s_iload_n (q := 219) 67 1 rfl rfl ?_
            refine s_bipush (q := 221) 68 rfl ?_
            obtain ⟨c159, h⟩ := h
            refine n_isub (q := 222) 69 rfl c159 ?_
            obtain ⟨c160, h⟩ := h
            obtain ⟨c161, h⟩ := h
            refine n_iald (q := 223) 70 rfl c160 c161 ?_
            refine s_goto (tgt := 227) 71 rfl rfl ?_
            exact s_iret 73 rfl rfl h
      · skip
        have b154 := hb
        replace h := h.2 hb
        refine s_aload_n (q := 190) 51 0 rfl rfl ?_
        obtain ⟨c162, h⟩ := h
        refine n_getf (q := 193) (jj := 13) 52 11 13 rfl kX11_87 c162 ?_
        refine s_iload_n (q := 194) 53 1 rfl rfl ?_
        refine s_bipush (q := 196) 54 rfl ?_
        obtain ⟨c163, h⟩ := h
        refine n_isub (q := 197) 55 rfl c163 ?_
        obtain ⟨c164, h⟩ := h
        obtain ⟨c165, h⟩ := h
        refine n_iald (q := 198) 56 rfl c164 c165 ?_
        exact s_iret 57 rfl rfl h
  obtain ⟨h0, h⟩ := h
  by_cases hs14 : x1 = 14
  · refine s_tableIn (tgt := 177) (off := 176) 1 rfl ⟨by rw [hs14]; decide, by rw [hs14]; decide⟩ (by rw [hs14]; rfl) rfl ?_
    replace h := h0 hs14
    refine s_iload_n (q := 178) 45 1 rfl rfl ?_
    refine s_bipush (q := 180) 46 rfl ?_
    refine s_icmp_lt (q := 183) (tgt := 199) 47 rfl rfl (fun hb => ?_) (fun hb => ?_)
    · skip
      have b166 := hb
      replace h := h.1 hb
      refine s_iload_n (q := 200) 58 1 rfl rfl ?_
      refine s_bipush (q := 202) 59 rfl ?_
      refine s_icmp_lt (q := 205) (tgt := 226) 60 rfl rfl (fun hb => ?_) (fun hb => ?_)
      · skip
        have b167 := hb
        replace h := h.1 hb
        refine s_iconst (q := 227) 72 rfl ?_
        exact s_iret 73 rfl rfl h
      · skip
        have b167 := hb
        replace h := h.2 hb
        refine s_iload_n (q := 206) 61 1 rfl rfl ?_
        refine s_bipush (q := 208) 62 rfl ?_
        refine s_icmp_ge (q := 211) (tgt := 226) 63 rfl rfl (fun hb => ?_) (fun hb => ?_)
        · skip
          have b168 := hb
          replace h := h.1 hb
          refine s_iconst (q := 227) 72 rfl ?_
          exact s_iret 73 rfl rfl h
        · skip
          have b168 := hb
          replace h := h.2 hb
          refine s_aload_n (q := 212) 64 0 rfl rfl ?_
          obtain ⟨c169, h⟩ := h
          refine n_getf (q := 215) (jj := 0) 65 11 0 rfl kX11_10 c169 ?_
          obtain ⟨c170, h⟩ := h
          refine n_getf (q := 218) (jj := 1) 66 1 1 rfl kX11_154 c170 ?_
          refine s_iload_n (q := 219) 67 1 rfl rfl ?_
          refine s_bipush (q := 221) 68 rfl ?_
          obtain ⟨c171, h⟩ := h
          refine n_isub (q := 222) 69 rfl c171 ?_
          obtain ⟨c172, h⟩ := h
          obtain ⟨c173, h⟩ := h
          refine n_iald (q := 223) 70 rfl c172 c173 ?_
          refine s_goto (tgt := 227) 71 rfl rfl ?_
          exact s_iret 73 rfl rfl h
    · skip
      have b166 := hb
      replace h := h.2 hb
      refine s_iload_n (q := 184) 48 1 rfl rfl ?_
      refine s_bipush (q := 186) 49 rfl ?_
      refine s_icmp_ge (q := 189) (tgt := 199) 50 rfl rfl (fun hb => ?_) (fun hb => ?_)
      · skip
        have b174 := hb
        replace h := h.1 hb
        refine s_iload_n (q := 200) 58 1 rfl rfl ?_
        refine s_bipush (q := 202) 59 rfl ?_
        refine s_icmp_lt (q := 205) (tgt := 226) 60 rfl rfl (fun hb => ?_) (fun hb => ?_)
        · skip
          have b175 := hb
          replace h := h.1 hb
          refine s_iconst (q := 227) 72 rfl ?_
          exact s_iret 73 rfl rfl h
        · skip
          have b175 := hb
          replace h := h.2 hb
          refine s_iload_n (q := 206) 61 1 rfl rfl ?_
          refine s_bipush (q := 208) 62 rfl ?_
          refine s_icmp_ge (q := 211) (tgt := 226) 63 rfl rfl (fun hb => ?_) (fun hb => ?_)
          · skip
            have b176 := hb
            replace h := h.1 hb
            refine s_iconst (q := 227) 72 rfl ?_
            exact s_iret 73 rfl rfl h
          · skip
            have b176 := hb
            replace h := h.2 hb
            refine s_aload_n (q := 212) 64 0 rfl rfl ?_
            obtain ⟨c177, h⟩ := h
            refine n_getf (q := 215) (jj := 0) 65 11 0 rfl kX11_10 c177 ?_
            obtain ⟨c178, h⟩ := h
            refine n_getf (q := 218) (jj := 1) 66 1 1 rfl kX11_154 c178 ?_
            refine s_iload_n (q := 219) 67 1 rfl rfl ?_
            refine s_bipush (q := 221) 68 rfl ?_
            obtain ⟨c179, h⟩ := h
            refine n_isub (q := 222) 69 rfl c179 ?_
            obtain ⟨c180, h⟩ := h
            obtain ⟨c181, h⟩ := h
            refine n_iald (q := 223) 70 rfl c180 c181 ?_
            refine s_goto (tgt := 227) 71 rfl rfl ?_
            exact s_iret 73 rfl rfl h
      · skip
        have b174 := hb
        replace h := h.2 hb
        refine s_aload_n (q := 190) 51 0 rfl rfl ?_
        obtain ⟨c182, h⟩ := h
        refine n_getf (q := 193) (jj := 13) 52 11 13 rfl kX11_87 c182 ?_
        refine s_iload_n (q := 194) 53 1 rfl rfl ?_
        refine s_bipush (q := 196) 54 rfl ?_
        obtain ⟨c183, h⟩ := h
        refine n_isub (q := 197) 55 rfl c183 ?_
        obtain ⟨c184, h⟩ := h
        obtain ⟨c185, h⟩ := h
        refine n_iald (q := 198) 56 rfl c184 c185 ?_
        exact s_iret 57 rfl rfl h
  obtain ⟨h0, h⟩ := h
  by_cases hs15 : x1 = 15
  · refine s_tableIn (tgt := 177) (off := 176) 1 rfl ⟨by rw [hs15]; decide, by rw [hs15]; decide⟩ (by rw [hs15]; rfl) rfl ?_
    replace h := h0 hs15
    refine s_iload_n (q := 178) 45 1 rfl rfl ?_
    refine s_bipush (q := 180) 46 rfl ?_
    refine s_icmp_lt (q := 183) (tgt := 199) 47 rfl rfl (fun hb => ?_) (fun hb => ?_)
    · skip
      have b186 := hb
      replace h := h.1 hb
      refine s_iload_n (q := 200) 58 1 rfl rfl ?_
      refine s_bipush (q := 202) 59 rfl ?_
      refine s_icmp_lt (q := 205) (tgt := 226) 60 rfl rfl (fun hb => ?_) (fun hb => ?_)
      · skip
        have b187 := hb
        replace h := h.1 hb
        refine s_iconst (q := 227) 72 rfl ?_
        exact s_iret 73 rfl rfl h
      · skip
        have b187 := hb
        replace h := h.2 hb
        refine s_iload_n (q := 206) 61 1 rfl rfl ?_
        refine s_bipush (q := 208) 62 rfl ?_
        refine s_icmp_ge (q := 211) (tgt := 226) 63 rfl rfl (fun hb => ?_) (fun hb => ?_)
        · skip
          have b188 := hb
          replace h := h.1 hb
          refine s_iconst (q := 227) 72 rfl ?_
          exact s_iret 73 rfl rfl h
        · skip
          have b188 := hb
          replace h := h.2 hb
          refine s_aload_n (q := 212) 64 0 rfl rfl ?_
          obtain ⟨c189, h⟩ := h
          refine n_getf (q := 215) (jj := 0) 65 11 0 rfl kX11_10 c189 ?_
          obtain ⟨c190, h⟩ := h
          refine n_getf (q := 218) (jj := 1) 66 1 1 rfl kX11_154 c190 ?_
          refine s_iload_n (q := 219) 67 1 rfl rfl ?_
          refine s_bipush (q := 221) 68 rfl ?_
          obtain ⟨c191, h⟩ := h
          refine n_isub (q := 222) 69 rfl c191 ?_
          obtain ⟨c192, h⟩ := h
          obtain ⟨c193, h⟩ := h
          refine n_iald (q := 223) 70 rfl c192 c193 ?_
          refine s_goto (tgt := 227) 71 rfl rfl ?_
          exact s_iret 73 rfl rfl h
    · skip
      have b186 := hb
      replace h := h.2 hb
      refine s_iload_n (q := 184) 48 1 rfl rfl ?_
      refine s_bipush (q := 186) 49 rfl ?_
      refine s_icmp_ge (q := 189) (tgt := 199) 50 rfl rfl (fun hb => ?_) (fun hb => ?_)
      · skip
        have b194 := hb
        replace h := h.1 hb
        refine s_iload_n (q := 200) 58 1 rfl rfl ?_
        refine s_bipush (q := 202) 59 rfl ?_
        refine s_icmp_lt (q := 205) (tgt := 226) 60 rfl rfl (fun hb => ?_) (fun hb => ?_)
        · skip
          have b195 := hb
          replace h := h.1 hb
          refine s_iconst (q := 227) 72 rfl ?_
          exact s_iret 73 rfl rfl h
        · skip
          have b195 := hb
          replace h := h.2 hb
          refine s_iload_n (q := 206) 61 1 rfl rfl ?_
          refine s_bipush (q := 208) 62 rfl ?_
          refine s_icmp_ge (q := 211) (tgt := 226) 63 rfl rfl (fun hb => ?_) (fun hb => ?_)
          · skip
            have b196 := hb
            replace h := h.1 hb
            refine s_iconst (q := 227) 72 rfl ?_
            exact s_iret 73 rfl rfl h
          · skip
            have b196 := hb
            replace h := h.2 hb
            refine s_aload_n (q := 212) 64 0 rfl rfl ?_
            obtain ⟨c197, h⟩ := h
            refine n_getf (q := 215) (jj := 0) 65 11 0 rfl kX11_10 c197 ?_
            obtain ⟨c198, h⟩ := h
            refine n_getf (q := 218) (jj := 1) 66 1 1 rfl kX11_154 c198 ?_
            refine s_iload_n (q := 219) 67 1 rfl rfl ?_
            refine s_bipush (q := 221) 68 rfl ?_
            obtain ⟨c199, h⟩ := h
            refine n_isub (q := 222) 69 rfl c199 ?_
            obtain ⟨c200, h⟩ := h
            obtain ⟨c201, h⟩ := h
            refine n_iald (q := 223) 70 rfl c200 c201 ?_
            refine s_goto (tgt := 227) 71 rfl rfl ?_
            exact s_iret 73 rfl rfl h
      · skip
        have b194 := hb
        replace h := h.2 hb
        refine s_aload_n (q := 190) 51 0 rfl rfl ?_
        obtain ⟨c202, h⟩ := h
        refine n_getf (q := 193) (jj := 13) 52 11 13 rfl kX11_87 c202 ?_
        refine s_iload_n (q := 194) 53 1 rfl rfl ?_
        refine s_bipush (q := 196) 54 rfl ?_
        obtain ⟨c203, h⟩ := h
        refine n_isub (q := 197) 55 rfl c203 ?_
        obtain ⟨c204, h⟩ := h
        obtain ⟨c205, h⟩ := h
        refine n_iald (q := 198) 56 rfl c204 c205 ?_
        exact s_iret 57 rfl rfl h
  obtain ⟨h0, h⟩ := h
  by_cases hs16 : x1 = 16
  · refine s_tableIn (tgt := 161) (off := 160) 1 rfl ⟨by rw [hs16]; decide, by rw [hs16]; decide⟩ (by rw [hs16]; rfl) rfl ?_
    replace h := h0 hs16
    refine s_aload_n (q := 162) 37 0 rfl rfl ?_
    obtain ⟨c206, h⟩ := h
    refine n_getf (q := 165) (jj := 11) 38 11 11 rfl kX11_76 c206 ?_
    obtain ⟨c207, h⟩ := h
    refine n_getf (q := 168) (jj := 1) 39 2 1 rfl kX11_251 c207 ?_
    exact s_iret 40 rfl rfl h
  have h0 := h
  by_cases hs17 : x1 = 17
  · refine s_tableIn (tgt := 169) (off := 168) 1 rfl ⟨by rw [hs17]; decide, by rw [hs17]; decide⟩ (by rw [hs17]; rfl) rfl ?_
    replace h := h0 hs17
    refine s_aload_n (q := 170) 41 0 rfl rfl ?_
    obtain ⟨c208, h⟩ := h
    refine n_getf (q := 173) (jj := 11) 42 11 11 rfl kX11_76 c208 ?_
    obtain ⟨c209, h⟩ := h
    refine n_getf (q := 176) (jj := 3) 43 2 3 rfl kX11_257 c209 ?_
    exact s_iret 44 rfl rfl h
  clear h h0
  exfalso
  omega
theorem vX11_status_0 {l : Launch} {G : pG} {bg : Nat × Nat} {n : Nat} {K : Int → Nat × Nat} {F E : Int → Int → Int} {Q : Option pV → pM → Prop} (x0 : Int) (h : (K x0).1 = 11 ∧ Q (some (0, F x0 16)) (n, K, F, E)) : PW l G 0 mX11_status bg 0 [(0, (2, x0))] [] (n, K, F, E) Q := by
  refine s_aload_n (q := 1) 0 0 rfl rfl ?_
  obtain ⟨c1, h⟩ := h
  refine n_getf (q := 4) (jj := 16) 1 11 16 rfl kX11_97 c1 ?_
  exact s_iret 2 rfl rfl h
theorem vX11_settle_0 {l : Launch} {G : pG} {bg : Nat × Nat} {n : Nat} {K : Int → Nat × Nat} {F E : Int → Int → Int} {Q : Option pV → pM → Prop} (x0 x1 : Int) (h : ((0 ≤ x1 → (K x0).1 = 11 ∧ (∀ F1, F1 = pUp F x0 16 0 → Q (some (0, x1)) (n, K, F1, E))) ∧ (¬ (0 ≤ x1) → (K x0).1 = 11 ∧ (∀ F2, F2 = pUp F x0 16 x1 → ((x1 < (-3) → (-2147483648 ≤ -x1 ∧ -x1 < 2147483648) ∧ (-2147483648 ≤ (-x1) - 2 ∧ (-x1) - 2 < 2147483648) ∧ (((-x1) - 2 < 0 → Q (some (0, x1)) (n, K, F2, E)) ∧ (¬ ((-x1) - 2 < 0) → ((5 ≤ (-x1) - 2 → Q (some (0, x1)) (n, K, F2, E)) ∧ (¬ (5 ≤ (-x1) - 2) → (K (F x0 13)).1 = 20 ∧ ((0 : Int) ≤ (-x1) - 2 ∧ (-x1) - 2 < ((K (F x0 13)).2 : Int)) ∧ (-2147483648 ≤ (E (F x0 13) ((-x1) - 2)) + 1 ∧ (E (F x0 13) ((-x1) - 2)) + 1 < 2147483648) ∧ (0 : Int) ≤ F x0 13 ∧ (∀ E3, E3 = pUp E (F x0 13) ((-x1) - 2) ((E (F x0 13) ((-x1) - 2)) + 1) → Q (some (0, x1)) (n, K, F2, E3))))))) ∧ (¬ (x1 < (-3)) → (-2147483648 ≤ -x1 ∧ -x1 < 2147483648) ∧ (-2147483648 ≤ (-x1) - 1 ∧ (-x1) - 1 < 2147483648) ∧ (((-x1) - 1 < 0 → Q (some (0, x1)) (n, K, F2, E)) ∧ (¬ ((-x1) - 1 < 0) → ((5 ≤ (-x1) - 1 → Q (some (0, x1)) (n, K, F2, E)) ∧ (¬ (5 ≤ (-x1) - 1) → (K (F x0 13)).1 = 20 ∧ ((0 : Int) ≤ (-x1) - 1 ∧ (-x1) - 1 < ((K (F x0 13)).2 : Int)) ∧ (-2147483648 ≤ (E (F x0 13) ((-x1) - 1)) + 1 ∧ (E (F x0 13) ((-x1) - 1)) + 1 < 2147483648) ∧ (0 : Int) ≤ F x0 13 ∧ (∀ E4, E4 = pUp E (F x0 13) ((-x1) - 1) ((E (F x0 13) ((-x1) - 1)) + 1) → Q (some (0, x1)) (n, K, F2, E4)))))))))))) : PW l G 1 mX11_settle bg 0 [(0, (2, x0)), (1, (0, x1))] [] (n, K, F, E) Q := by
  refine s_iload_n (q := 1) 0 1 rfl rfl ?_
  refine s_if_ge (q := 4) (tgt := 12) 1 rfl rfl (fun hb => ?_) (fun hb => ?_)
  · skip
    have b1 := hb
    replace h := h.1 hb
    refine s_aload_n (q := 13) 6 0 rfl rfl ?_
    refine s_iload_n (q := 14) 7 1 rfl rfl ?_
    obtain ⟨c2, h⟩ := h
    refine n_callV (N := mX11_accept) (as := [(0, x1)]) (st := []) (q := 17) (d' := 0) 8 rfl uX11_accept kX11_157 rfl c2 ?_
    show PW l G 0 mX11_accept (0, 0) 0 [(0, (2, x0)), (1, (0, x1))] [] (n, K, F, E) _
    refine s_aload_n (q := 1) 0 0 rfl rfl ?_
    refine s_iconst (q := 2) 1 rfl ?_
    refine n_putf (q := 5) (jj := 16) 2 11 16 rfl kX11_97 c2 (Or.inl rfl) ?_
    refine PW.nameF (fun F1 eF1 => ?_)
    replace h := h F1 eF1
    refine s_iload_n (q := 6) 3 1 rfl rfl ?_
    refine s_iret 4 rfl rfl ?_
    show PW l G 1 mX11_settle bg 17 [(0, (2, x0)), (1, (0, x1))] [(0, x1)] (n, K, F1, E) Q
    exact s_iret 9 rfl rfl h
  · skip
    have b1 := hb
    replace h := h.2 hb
    refine s_aload_n (q := 5) 2 0 rfl rfl ?_
    refine s_iload_n (q := 6) 3 1 rfl rfl ?_
    obtain ⟨c3, h⟩ := h
    refine n_callV (N := mX11_refuse) (as := [(0, x1)]) (st := []) (q := 9) (d' := 0) 4 rfl uX11_refuse kX11_114 rfl c3 ?_
    show PW l G 0 mX11_refuse (0, 0) 0 [(0, (2, x0)), (1, (0, x1))] [] (n, K, F, E) _
    refine s_aload_n (q := 1) 0 0 rfl rfl ?_
    refine s_iload_n (q := 2) 1 1 rfl rfl ?_
    refine n_putf (q := 5) (jj := 16) 2 11 16 rfl kX11_97 c3 (Or.inl rfl) ?_
    refine PW.nameF (fun F2 eF2 => ?_)
    replace h := h F2 eF2
    refine s_iload_n (q := 6) 3 1 rfl rfl ?_
    refine s_bipush (q := 8) 4 rfl ?_
    refine s_icmp_lt (q := 11) (tgt := 18) 5 rfl rfl (fun hb => ?_) (fun hb => ?_)
    · skip
      have b4 := hb
      replace h := h.1 hb
      refine s_iload_n (q := 19) 11 1 rfl rfl ?_
      obtain ⟨c5, h⟩ := h
      refine n_ineg (q := 20) 12 rfl c5 ?_
      refine s_iconst (q := 21) 13 rfl ?_
      obtain ⟨c6, h⟩ := h
      refine n_isub (q := 22) 14 rfl c6 ?_
      refine s_istore_n (q := 23) (lv' := [(2, (0, (-x1) - 2)), (0, (2, x0)), (1, (0, x1))]) 15 rfl rfl ?_
      refine s_iload_n (q := 24) 16 0 rfl rfl ?_
      refine s_if_lt (q := 27) (tgt := 42) 17 rfl rfl (fun hb => ?_) (fun hb => ?_)
      · skip
        have b7 := hb
        replace h := h.1 hb
        refine s_iload_n (q := 43) 29 2 rfl rfl ?_
        refine s_iret 30 rfl rfl ?_
        show PW l G 1 mX11_settle bg 9 [(0, (2, x0)), (1, (0, x1))] [(0, x1)] (n, K, F2, E) Q
        refine s_goto (tgt := 17) 5 rfl rfl ?_
        exact s_iret 9 rfl rfl h
      · skip
        have b7 := hb
        replace h := h.2 hb
        refine s_iload_n (q := 28) 18 0 rfl rfl ?_
        refine s_iconst (q := 29) 19 rfl ?_
        refine s_icmp_ge (q := 32) (tgt := 42) 20 rfl rfl (fun hb => ?_) (fun hb => ?_)
        · skip
          have b8 := hb
          replace h := h.1 hb
          refine s_iload_n (q := 43) 29 2 rfl rfl ?_
          refine s_iret 30 rfl rfl ?_
          show PW l G 1 mX11_settle bg 9 [(0, (2, x0)), (1, (0, x1))] [(0, x1)] (n, K, F2, E) Q
          refine s_goto (tgt := 17) 5 rfl rfl ?_
          exact s_iret 9 rfl rfl h
        · skip
          have b8 := hb
          replace h := h.2 hb
          refine s_aload_n (q := 33) 21 1 rfl rfl ?_
          refine n_getf (q := 36) (jj := 13) 22 11 13 rfl kX11_87 c3 ?_
          refine PW.top (b := F x0 13) (by exact (congrFun (congrFun eF2 _) _).trans (pUp_k (by decide))) ?_
          refine s_iload_n (q := 37) 23 0 rfl rfl ?_
          refine s_dup2 (q := 38) 24 rfl ?_
          obtain ⟨c9, h⟩ := h
          obtain ⟨c10, h⟩ := h
          refine n_iald (q := 39) 25 rfl c9 c10 ?_
          refine s_iconst (q := 40) 26 rfl ?_
          obtain ⟨c11, h⟩ := h
          refine n_iadd (q := 41) 27 rfl c11 ?_
          obtain ⟨c12, h⟩ := h
          refine n_iast (q := 42) 28 rfl c12 c9 c10 ?_
          refine PW.nameE (fun E3 eE3 => ?_)
          replace h := h E3 eE3
          refine s_iload_n (q := 43) 29 2 rfl rfl ?_
          refine s_iret 30 rfl rfl ?_
          show PW l G 1 mX11_settle bg 9 [(0, (2, x0)), (1, (0, x1))] [(0, x1)] (n, K, F2, E3) Q
          refine s_goto (tgt := 17) 5 rfl rfl ?_
          exact s_iret 9 rfl rfl h
    · skip
      have b4 := hb
      replace h := h.2 hb
      refine s_iload_n (q := 12) 6 1 rfl rfl ?_
      obtain ⟨c13, h⟩ := h
      refine n_ineg (q := 13) 7 rfl c13 ?_
      refine s_iconst (q := 14) 8 rfl ?_
      obtain ⟨c14, h⟩ := h
      refine n_isub (q := 15) 9 rfl c14 ?_
      refine s_goto (tgt := 22) 10 rfl rfl ?_
      refine s_istore_n (q := 23) (lv' := [(2, (0, (-x1) - 1)), (0, (2, x0)), (1, (0, x1))]) 15 rfl rfl ?_
      refine s_iload_n (q := 24) 16 0 rfl rfl ?_
      refine s_if_lt (q := 27) (tgt := 42) 17 rfl rfl (fun hb => ?_) (fun hb => ?_)
      · skip
        have b15 := hb
        replace h := h.1 hb
        refine s_iload_n (q := 43) 29 2 rfl rfl ?_
        refine s_iret 30 rfl rfl ?_
        show PW l G 1 mX11_settle bg 9 [(0, (2, x0)), (1, (0, x1))] [(0, x1)] (n, K, F2, E) Q
        refine s_goto (tgt := 17) 5 rfl rfl ?_
        exact s_iret 9 rfl rfl h
      · skip
        have b15 := hb
        replace h := h.2 hb
        refine s_iload_n (q := 28) 18 0 rfl rfl ?_
        refine s_iconst (q := 29) 19 rfl ?_
        refine s_icmp_ge (q := 32) (tgt := 42) 20 rfl rfl (fun hb => ?_) (fun hb => ?_)
        · skip
          have b16 := hb
          replace h := h.1 hb
          refine s_iload_n (q := 43) 29 2 rfl rfl ?_
          refine s_iret 30 rfl rfl ?_
          show PW l G 1 mX11_settle bg 9 [(0, (2, x0)), (1, (0, x1))] [(0, x1)] (n, K, F2, E) Q
          refine s_goto (tgt := 17) 5 rfl rfl ?_
          exact s_iret 9 rfl rfl h
        · skip
          have b16 := hb
          replace h := h.2 hb
          refine s_aload_n (q := 33) 21 1 rfl rfl ?_
          refine n_getf (q := 36) (jj := 13) 22 11 13 rfl kX11_87 c3 ?_
          refine PW.top (b := F x0 13) (by exact (congrFun (congrFun eF2 _) _).trans (pUp_k (by decide))) ?_
          refine s_iload_n (q := 37) 23 0 rfl rfl ?_
          refine s_dup2 (q := 38) 24 rfl ?_
          obtain ⟨c17, h⟩ := h
          obtain ⟨c18, h⟩ := h
          refine n_iald (q := 39) 25 rfl c17 c18 ?_
          refine s_iconst (q := 40) 26 rfl ?_
          obtain ⟨c19, h⟩ := h
          refine n_iadd (q := 41) 27 rfl c19 ?_
          obtain ⟨c20, h⟩ := h
          refine n_iast (q := 42) 28 rfl c20 c17 c18 ?_
          refine PW.nameE (fun E4 eE4 => ?_)
          replace h := h E4 eE4
          refine s_iload_n (q := 43) 29 2 rfl rfl ?_
          refine s_iret 30 rfl rfl ?_
          show PW l G 1 mX11_settle bg 9 [(0, (2, x0)), (1, (0, x1))] [(0, x1)] (n, K, F2, E4) Q
          refine s_goto (tgt := 17) 5 rfl rfl ?_
          exact s_iret 9 rfl rfl h
