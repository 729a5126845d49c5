theorem vX11_days_0 {l : Launch} {G : pG} {bg : Nat × Nat} {n : Nat} {K : Int → Nat × Nat} {F E : Int → Int → Int} {Q : Option pV → pM → Prop} (x0 x1 x2 : Int) (h : ((x1 < 0 → (K x0).1 = 11 ∧ (∀ F1, F1 = pUp F x0 16 (-1) → (K (F x0 13)).1 = 20 ∧ ((0 : Int) ≤ 0 ∧ 0 < ((K (F x0 13)).2 : Int)) ∧ (0 : Int) ≤ F x0 13 ∧ (∀ E2, E2 = pUp E (F x0 13) 0 (w32 ((E (F x0 13) 0) + 1)) → Q (some (0, (-1))) (n, K, F1, E2)))) ∧ (¬ (x1 < 0) → ((1000000 < x1 → (K x0).1 = 11 ∧ (∀ F3, F3 = pUp F x0 16 (-1) → (K (F x0 13)).1 = 20 ∧ ((0 : Int) ≤ 0 ∧ 0 < ((K (F x0 13)).2 : Int)) ∧ (0 : Int) ≤ F x0 13 ∧ (∀ E4, E4 = pUp E (F x0 13) 0 (w32 ((E (F x0 13) 0) + 1)) → Q (some (0, (-1))) (n, K, F3, E4)))) ∧ (¬ (1000000 < x1) → ((x2 < 1 → (K x0).1 = 11 ∧ (∀ F5, F5 = pUp F x0 16 (-1) → (K (F x0 13)).1 = 20 ∧ ((0 : Int) ≤ 0 ∧ 0 < ((K (F x0 13)).2 : Int)) ∧ (0 : Int) ≤ F x0 13 ∧ (∀ E6, E6 = pUp E (F x0 13) 0 (w32 ((E (F x0 13) 0) + 1)) → Q (some (0, (-1))) (n, K, F5, E6)))) ∧ (¬ (x2 < 1) → ((x2 ≤ 60 → (K x0).1 = 11 ∧ (K (F x0 0)).1 = 1 ∧ (K (F x0 6)).1 = 0 ∧ (K (F (F x0 0) 0)).1 = 0 ∧ (0 : Int) ≤ F (F (F x0 0) 0) 0 ∧ (K (F (F (F x0 0) 0) 0)).1 = 20 ∧ (0 : Int) ≤ F (F x0 6) 0 ∧ (K (F (F x0 6) 0)).1 = 20 ∧ ((0 : Int) ≤ 0 ∧ (0 : Int) ≤ 0 ∧ (0 : Int) ≤ 117 ∧ 0 + 117 ≤ ((K (F (F (F x0 0) 0) 0)).2 : Int) ∧ 0 + 117 ≤ ((K (F (F x0 6) 0)).2 : Int)) ∧ (∀ E7, E7 = pRow E (F (F x0 6) 0) (pCpy E (F (F (F x0 0) 0) 0) 0 (F (F x0 6) 0) 0 117) → (∀ F8, F8 = pUp F x0 7 1 → PW l G 32 mX11_days bg 52 [(0, (2, x0)), (2, (0, x2)), (3, (0, x1)), (4, (0, 0))] [] (n, K, F8, E7) Q))) ∧ (¬ (x2 ≤ 60) → (K x0).1 = 11 ∧ (∀ F9, F9 = pUp F x0 16 (-1) → (K (F x0 13)).1 = 20 ∧ ((0 : Int) ≤ 0 ∧ 0 < ((K (F x0 13)).2 : Int)) ∧ (0 : Int) ≤ F x0 13 ∧ (∀ E10, E10 = pUp E (F x0 13) 0 (w32 ((E (F x0 13) 0) + 1)) → Q (some (0, (-1))) (n, K, F9, E10)))))))))))) : PW l G 32 mX11_days bg 0 [(0, (2, x0)), (1, (0, x1)), (2, (0, x2))] [] (n, K, F, E) Q := by
  refine s_iload_n (q := 1) 0 1 rfl rfl ?_
  refine s_if_lt (q := 4) (tgt := 22) 1 rfl rfl (fun hb => ?_) (fun hb => ?_)
  · skip
    have b1 := hb
    replace h := h.1 hb
    refine s_aload_n (q := 23) 11 0 rfl rfl ?_
    refine s_iconst (q := 24) 12 rfl ?_
    obtain ⟨c2, h⟩ := h
    refine n_callV (N := mX11_refuse) (as := [(0, (-1))]) (st := []) (q := 27) (d' := 0) 13 rfl uX11_refuse kX11_114 rfl c2 ?_
    show PW l G 0 mX11_refuse (0, 0) 0 [(0, (2, x0)), (1, (0, (-1)))] [] (n, K, F, E) _
    refine s_aload_n (q := 1) 0 0 rfl rfl ?_
    refine s_iload_n (q := 2) 1 1 rfl rfl ?_
    refine n_putf (q := 5) (jj := 16) 2 11 16 rfl kX11_97 c2 (Or.inl rfl) ?_
    refine PW.nameF (fun F1 eF1 => ?_)
    replace h := h F1 eF1
    refine s_iload_n (q := 6) 3 1 rfl rfl ?_
    refine s_bipush (q := 8) 4 rfl ?_
    refine s_icmp_lt (q := 11) (tgt := 18) 5 rfl rfl (fun hb => absurd hb (by decide)) (fun _ => ?_)
    refine s_iload_n (q := 12) 6 1 rfl rfl ?_
    refine n_ineg (q := 13) 7 rfl (by decide) ?_
    refine PW.top (b := 1) (by decide) ?_
    refine s_iconst (q := 14) 8 rfl ?_
    refine n_isub (q := 15) 9 rfl (by decide) ?_
    refine PW.top (b := 0) (by decide) ?_
    refine s_goto (tgt := 22) 10 rfl rfl ?_
    refine s_istore_n (q := 23) (lv' := [(2, (0, 0)), (0, (2, x0)), (1, (0, (-1)))]) 15 rfl rfl ?_
    refine s_iload_n (q := 24) 16 0 rfl rfl ?_
    refine s_if_lt (q := 27) (tgt := 42) 17 rfl rfl (fun hb => absurd hb (by decide)) (fun _ => ?_)
    refine s_iload_n (q := 28) 18 0 rfl rfl ?_
    refine s_iconst (q := 29) 19 rfl ?_
    refine s_icmp_ge (q := 32) (tgt := 42) 20 rfl rfl (fun hb => absurd hb (by decide)) (fun _ => ?_)
    refine s_aload_n (q := 33) 21 1 rfl rfl ?_
    refine n_getf (q := 36) (jj := 13) 22 11 13 rfl kX11_87 c2 ?_
    refine PW.top (b := F x0 13) (by exact (congrFun (congrFun eF1 _) _).trans (pUp_k (by decide))) ?_
    refine s_iload_n (q := 37) 23 0 rfl rfl ?_
    refine s_dup2 (q := 38) 24 rfl ?_
    obtain ⟨c3, h⟩ := h
    obtain ⟨c4, h⟩ := h
    refine n_iald (q := 39) 25 rfl c3 c4 ?_
    refine s_iconst (q := 40) 26 rfl ?_
    refine s_iadd (q := 41) 27 rfl ?_
    obtain ⟨c5, h⟩ := h
    refine n_iast (q := 42) 28 rfl c5 c3 c4 ?_
    refine PW.nameE (fun E2 eE2 => ?_)
    replace h := h E2 eE2
    refine s_iload_n (q := 43) 29 2 rfl rfl ?_
    refine s_iret 30 rfl rfl ?_
    show PW l G 32 mX11_days bg 27 [(0, (2, x0)), (1, (0, x1)), (2, (0, x2))] [(0, (-1))] (n, K, F1, E2) Q
    exact s_iret 14 rfl rfl h
  · skip
    have b1 := hb
    replace h := h.2 hb
    refine s_iload_n (q := 5) 2 1 rfl rfl ?_
    refine s_ldcw (q := 8) (x := 1000000) 3 rfl kX11_313 ?_
    refine s_icmp_gt (q := 11) (tgt := 22) 4 rfl rfl (fun hb => ?_) (fun hb => ?_)
    · skip
      have b6 := hb
      replace h := h.1 hb
      refine s_aload_n (q := 23) 11 0 rfl rfl ?_
      refine s_iconst (q := 24) 12 rfl ?_
      obtain ⟨c7, h⟩ := h
      refine n_callV (N := mX11_refuse) (as := [(0, (-1))]) (st := []) (q := 27) (d' := 0) 13 rfl uX11_refuse kX11_114 rfl c7 ?_
      show PW l G 0 mX11_refuse (0, 0) 0 [(0, (2, x0)), (1, (0, (-1)))] [] (n, K, F, E) _
      refine s_aload_n (q := 1) 0 0 rfl rfl ?_
      refine s_iload_n (q := 2) 1 1 rfl rfl ?_
      refine n_putf (q := 5) (jj := 16) 2 11 16 rfl kX11_97 c7 (Or.inl rfl) ?_
      refine PW.nameF (fun F3 eF3 => ?_)
      replace h := h F3 eF3
      refine s_iload_n (q := 6) 3 1 rfl rfl ?_
      refine s_bipush (q := 8) 4 rfl ?_
      refine s_icmp_lt (q := 11) (tgt := 18) 5 rfl rfl (fun hb => absurd hb (by decide)) (fun _ => ?_)
      refine s_iload_n (q := 12) 6 1 rfl rfl ?_
      refine n_ineg (q := 13) 7 rfl (by decide) ?_
      refine PW.top (b := 1) (by decide) ?_
      refine s_iconst (q := 14) 8 rfl ?_
      refine n_isub (q := 15) 9 rfl (by decide) ?_
      refine PW.top (b := 0) (by decide) ?_
      refine s_goto (tgt := 22) 10 rfl rfl ?_
      refine s_istore_n (q := 23) (lv' := [(2, (0, 0)), (0, (2, x0)), (1, (0, (-1)))]) 15 rfl rfl ?_
      refine s_iload_n (q := 24) 16 0 rfl rfl ?_
      refine s_if_lt (q := 27) (tgt := 42) 17 rfl rfl (fun hb => absurd hb (by decide)) (fun _ => ?_)
      refine s_iload_n (q := 28) 18 0 rfl rfl ?_
      refine s_iconst (q := 29) 19 rfl ?_
      refine s_icmp_ge (q := 32) (tgt := 42) 20 rfl rfl (fun hb => absurd hb (by decide)) (fun _ => ?_)
      refine s_aload_n (q := 33) 21 1 rfl rfl ?_
      refine n_getf (q := 36) (jj := 13) 22 11 13 rfl kX11_87 c7 ?_
      refine PW.top (b := F x0 13) (by exact (congrFun (congrFun eF3 _) _).trans (pUp_k (by decide))) ?_
      refine s_iload_n (q := 37) 23 0 rfl rfl ?_
      refine s_dup2 (q := 38) 24 rfl ?_
      obtain ⟨c8, h⟩ := h
      obtain ⟨c9, h⟩ := h
      refine n_iald (q := 39) 25 rfl c8 c9 ?_
      refine s_iconst (q := 40) 26 rfl ?_
      refine s_iadd (q := 41) 27 rfl ?_
      obtain ⟨c10, h⟩ := h
      refine n_iast (q := 42) 28 rfl c10 c8 c9 ?_
      refine PW.nameE (fun E4 eE4 => ?_)
      replace h := h E4 eE4
      refine s_iload_n (q := 43) 29 2 rfl rfl ?_
      refine s_iret 30 rfl rfl ?_
      show PW l G 32 mX11_days bg 27 [(0, (2, x0)), (1, (0, x1)), (2, (0, x2))] [(0, (-1))] (n, K, F3, E4) Q
      exact s_iret 14 rfl rfl h
    · skip
      have b6 := hb
      replace h := h.2 hb
      refine s_iload_n (q := 12) 5 2 rfl rfl ?_
      refine s_iconst (q := 13) 6 rfl ?_
      refine s_icmp_lt (q := 16) (tgt := 22) 7 rfl rfl (fun hb => ?_) (fun hb => ?_)
      · skip
        have b11 := hb
        replace h := h.1 hb
        refine s_aload_n (q := 23) 11 0 rfl rfl ?_
        refine s_iconst (q := 24) 12 rfl ?_
        obtain ⟨c12, h⟩ := h
        refine n_callV (N := mX11_refuse) (as := [(0, (-1))]) (st := []) (q := 27) (d' := 0) 13 rfl uX11_refuse kX11_114 rfl c12 ?_
        show PW l G 0 mX11_refuse (0, 0) 0 [(0, (2, x0)), (1, (0, (-1)))] [] (n, K, F, E) _
        refine s_aload_n (q := 1) 0 0 rfl rfl ?_
        refine s_iload_n (q := 2) 1 1 rfl rfl ?_
        refine n_putf (q := 5) (jj := 16) 2 11 16 rfl kX11_97 c12 (Or.inl rfl) ?_
        refine PW.nameF (fun F5 eF5 => ?_)
        replace h := h F5 eF5
        refine s_iload_n (q := 6) 3 1 rfl rfl ?_
        refine s_bipush (q := 8) 4 rfl ?_
        refine s_icmp_lt (q := 11) (tgt := 18) 5 rfl rfl (fun hb => absurd hb (by decide)) (fun _ => ?_)
        refine s_iload_n (q := 12) 6 1 rfl rfl ?_
        refine n_ineg (q := 13) 7 rfl (by decide) ?_
        refine PW.top (b := 1) (by decide) ?_
        refine s_iconst (q := 14) 8 rfl ?_
        refine n_isub (q := 15) 9 rfl (by decide) ?_
        refine PW.top (b := 0) (by decide) ?_
        refine s_goto (tgt := 22) 10 rfl rfl ?_
        refine s_istore_n (q := 23) (lv' := [(2, (0, 0)), (0, (2, x0)), (1, (0, (-1)))]) 15 rfl rfl ?_
        refine s_iload_n (q := 24) 16 0 rfl rfl ?_
        refine s_if_lt (q := 27) (tgt := 42) 17 rfl rfl (fun hb => absurd hb (by decide)) (fun _ => ?_)
        refine s_iload_n (q := 28) 18 0 rfl rfl ?_
        refine s_iconst (q := 29) 19 rfl ?_
        refine s_icmp_ge (q := 32) (tgt := 42) 20 rfl rfl (fun hb => absurd hb (by decide)) (fun _ => ?_)
        refine s_aload_n (q := 33) 21 1 rfl rfl ?_
        refine n_getf (q := 36) (jj := 13) 22 11 13 rfl kX11_87 c12 ?_
        refine PW.top (b := F x0 13) (by exact (congrFun (congrFun eF5 _) _).trans (pUp_k (by decide))) ?_
        refine s_iload_n (q := 37) 23 0 rfl rfl ?_
        refine s_dup2 (q := 38) 24 rfl ?_
        obtain ⟨c13, h⟩ := h
        obtain ⟨c14, h⟩ := h
        refine n_iald (q := 39) 25 rfl c13 c14 ?_
        refine s_iconst (q := 40) 26 rfl ?_
        refine s_iadd (q := 41) 27 rfl ?_
        obtain ⟨c15, h⟩ := h
        refine n_iast (q := 42) 28 rfl c15 c13 c14 ?_
        refine PW.nameE (fun E6 eE6 => ?_)
        replace h := h E6 eE6
        refine s_iload_n (q := 43) 29 2 rfl rfl ?_
        refine s_iret 30 rfl rfl ?_
        show PW l G 32 mX11_days bg 27 [(0, (2, x0)), (1, (0, x1)), (2, (0, x2))] [(0, (-1))] (n, K, F5, E6) Q
        exact s_iret 14 rfl rfl h
      · skip
        have b11 := hb
        replace h := h.2 hb
        refine s_iload_n (q := 17) 8 2 rfl rfl ?_
        refine s_bipush (q := 19) 9 rfl ?_
        refine s_icmp_le (q := 22) (tgt := 28) 10 rfl rfl (fun hb => ?_) (fun hb => ?_)
        · skip
          have b16 := hb
          replace h := h.1 hb
          refine s_aload_n (q := 29) 15 0 rfl rfl ?_
          obtain ⟨c17, h⟩ := h
          refine n_getf (q := 32) (jj := 6) 16 11 6 rfl kX11_41 c17 ?_
          refine s_aload_n (q := 33) 17 0 rfl rfl ?_
          refine n_getf (q := 36) (jj := 0) 18 11 0 rfl kX11_10 c17 ?_
          obtain ⟨c18, h⟩ := h
          refine n_getf (q := 39) (jj := 0) 19 1 0 rfl kX11_125 c18 ?_
          obtain ⟨c19, h⟩ := h
          refine n_callV (N := mX0_copy) (as := [(2, F (F x0 0) 0)]) (st := []) (q := 42) (d' := 0) 20 rfl uX0_copy kX11_202 rfl c19 ?_
          show PW l G 0 mX0_copy (0, 0) 0 [(0, (2, F x0 6)), (1, (2, F (F x0 0) 0))] [] (n, K, F, E) _
          refine s_aload_n (q := 1) 0 1 rfl rfl ?_
          obtain ⟨c20, h⟩ := h
          refine n_getf (q := 4) (jj := 0) 1 0 0 rfl kX0_11 c20 ?_
          refine s_iconst (q := 5) 2 rfl ?_
          refine s_aload_n (q := 6) 3 0 rfl rfl ?_
          refine n_getf (q := 9) (jj := 0) 4 0 0 rfl kX0_11 c19 ?_
          refine s_iconst (q := 10) 5 rfl ?_
          refine s_bipush (q := 12) 6 rfl ?_
          obtain ⟨c21, h⟩ := h
          obtain ⟨c22, h⟩ := h
          obtain ⟨c23, h⟩ := h
          obtain ⟨c24, h⟩ := h
          obtain ⟨c25, h⟩ := h
          refine n_copy (q := 15) 7 rfl kX0_15 c21 c22 c23 c24 c25 ?_
          refine PW.nameE (fun E7 eE7 => ?_)
          replace h := h E7 eE7
          refine s_vret 8 rfl rfl ?_
          show PW l G 32 mX11_days bg 42 [(0, (2, x0)), (1, (0, x1)), (2, (0, x2))] [] (n, K, F, E7) Q
          refine s_aload_n (q := 43) 21 0 rfl rfl ?_
          refine s_iconst (q := 44) 22 rfl ?_
          refine n_putf (q := 47) (jj := 7) 23 11 7 rfl kX11_44 c17 (Or.inr (Or.inr (Or.inl ⟨rfl, (by decide)⟩))) ?_
          refine PW.nameF (fun F8 eF8 => ?_)
          replace h := h F8 eF8
          refine s_iload_n (q := 48) 24 1 rfl rfl ?_
          refine s_istore_n (q := 49) (lv' := [(3, (0, x1)), (0, (2, x0)), (1, (0, x1)), (2, (0, x2))]) 25 rfl rfl ?_
          refine s_iconst (q := 50) 26 rfl ?_
          refine s_istore (q := 52) (lv' := [(4, (0, 0)), (3, (0, x1)), (0, (2, x0)), (1, (0, x1)), (2, (0, x2))]) 27 rfl rfl ?_
          refine PW.pick [2, 4, 1, 0] rfl ?_
          exact h
        · skip
          have b16 := hb
          replace h := h.2 hb
          refine s_aload_n (q := 23) 11 0 rfl rfl ?_
          refine s_iconst (q := 24) 12 rfl ?_
          obtain ⟨c26, h⟩ := h
          refine n_callV (N := mX11_refuse) (as := [(0, (-1))]) (st := []) (q := 27) (d' := 0) 13 rfl uX11_refuse kX11_114 rfl c26 ?_
          show PW l G 0 mX11_refuse (0, 0) 0 [(0, (2, x0)), (1, (0, (-1)))] [] (n, K, F, E) _
          refine s_aload_n (q := 1) 0 0 rfl rfl ?_
          refine s_iload_n (q := 2) 1 1 rfl rfl ?_
          refine n_putf (q := 5) (jj := 16) 2 11 16 rfl kX11_97 c26 (Or.inl rfl) ?_
          refine PW.nameF (fun F9 eF9 => ?_)
          replace h := h F9 eF9
          refine s_iload_n (q := 6) 3 1 rfl rfl ?_
          refine s_bipush (q := 8) 4 rfl ?_
          refine s_icmp_lt (q := 11) (tgt := 18) 5 rfl rfl (fun hb => absurd hb (by decide)) (fun _ => ?_)
          refine s_iload_n (q := 12) 6 1 rfl rfl ?_
          refine n_ineg (q := 13) 7 rfl (by decide) ?_
          refine PW.top (b := 1) (by decide) ?_
          refine s_iconst (q := 14) 8 rfl ?_
          refine n_isub (q := 15) 9 rfl (by decide) ?_
          refine PW.top (b := 0) (by decide) ?_
          refine s_goto (tgt := 22) 10 rfl rfl ?_
          refine s_istore_n (q := 23) (lv' := [(2, (0, 0)), (0, (2, x0)), (1, (0, (-1)))]) 15 rfl rfl ?_
          refine s_iload_n (q := 24) 16 0 rfl rfl ?_
          refine s_if_lt (q := 27) (tgt := 42) 17 rfl rfl (fun hb => absurd hb (by decide)) (fun _ => ?_)
          refine s_iload_n (q := 28) 18 0 rfl rfl ?_
          refine s_iconst (q := 29) 19 rfl ?_
          refine s_icmp_ge (q := 32) (tgt := 42) 20 rfl rfl (fun hb => absurd hb (by decide)) (fun _ => ?_)
          refine s_aload_n (q := 33) 21 1 rfl rfl ?_
          refine n_getf (q := 36) (jj := 13) 22 11 13 rfl kX11_87 c26 ?_
          refine PW.top (b := F x0 13) (by exact (congrFun (congrFun eF9 _) _).trans (pUp_k (by decide))) ?_
          refine s_iload_n (q := 37) 23 0 rfl rfl ?_
          refine s_dup2 (q := 38) 24 rfl ?_
          obtain ⟨c27, h⟩ := h
          obtain ⟨c28, h⟩ := h
          refine n_iald (q := 39) 25 rfl c27 c28 ?_
          refine s_iconst (q := 40) 26 rfl ?_
          refine s_iadd (q := 41) 27 rfl ?_
          obtain ⟨c29, h⟩ := h
          refine n_iast (q := 42) 28 rfl c29 c27 c28 ?_
          refine PW.nameE (fun E10 eE10 => ?_)
          replace h := h E10 eE10
          refine s_iload_n (q := 43) 29 2 rfl rfl ?_
          refine s_iret 30 rfl rfl ?_
          show PW l G 32 mX11_days bg 27 [(0, (2, x0)), (1, (0, x1)), (2, (0, x2))] [(0, (-1))] (n, K, F9, E10) Q
          exact s_iret 14 rfl rfl h
theorem vX11_days_52 {l : Launch} {G : pG} {bg : Nat × Nat} {n : Nat} {K : Int → Nat × Nat} {F E : Int → Int → Int} {Q : Option pV → pM → Prop} (x0 x2 x3 x4 : Int) (h : ((x2 ≤ x4 → (K x0).1 = 11 ∧ (K (F x0 6)).1 = 0 ∧ (K (F (F x0 6) 0)).1 = 20 ∧ ((0 : Int) ≤ 2 ∧ 2 < ((K (F (F x0 6) 0)).2 : Int)) ∧ (K (F x0 0)).1 = 1 ∧ (K (F (F x0 0) 0)).1 = 0 ∧ (K (F (F (F x0 0) 0) 0)).1 = 20 ∧ ((0 : Int) ≤ 2 ∧ 2 < ((K (F (F (F x0 0) 0) 0)).2 : Int)) ∧ (∀ a1, a1 = w32 ((E (F (F x0 6) 0) 2) - (E (F (F (F x0 0) 0) 0) 2)) → (∀ F2, F2 = pUp F x0 16 0 → Q (some (0, a1)) (n, K, F2, E)))) ∧ (¬ (x2 ≤ x4) → (-9223372036854775808 ≤ (w64 (x3 * 1103)) + 12345 ∧ (w64 (x3 * 1103)) + 12345 < 9223372036854775808) ∧ (-2147483648 ≤ ((w64 (x3 * 1103)) + 12345).tmod 1000003 ∧ ((w64 (x3 * 1103)) + 12345).tmod 1000003 < 2147483648) ∧ (∀ a3, a3 = (((w64 (x3 * 1103)) + 12345).tmod 1000003).tmod 3 → (∀ a4, a4 = w64 ((((w64 (x3 * 1103)) + 12345).tmod 1000003) * 1103) → (-9223372036854775808 ≤ a4 + 12345 ∧ a4 + 12345 < 9223372036854775808) ∧ (-2147483648 ≤ (a4 + 12345).tmod 1000003 ∧ (a4 + 12345).tmod 1000003 < 2147483648) ∧ (-9223372036854775808 ≤ (w64 (((a4 + 12345).tmod 1000003) * 1103)) + 12345 ∧ (w64 (((a4 + 12345).tmod 1000003) * 1103)) + 12345 < 9223372036854775808) ∧ (∀ a5, a5 = (w64 (((a4 + 12345).tmod 1000003) * 1103)) + 12345 → (-2147483648 ≤ a5.tmod 1000003 ∧ a5.tmod 1000003 < 2147483648) ∧ (-9223372036854775808 ≤ (w64 ((a5.tmod 1000003) * 1103)) + 12345 ∧ (w64 ((a5.tmod 1000003) * 1103)) + 12345 < 9223372036854775808) ∧ (∀ a6, a6 = ((w64 ((a5.tmod 1000003) * 1103)) + 12345).tmod 1000003 → (-2147483648 ≤ a6 ∧ a6 < 2147483648) ∧ ((7 ≤ a6.tmod 8 → (K x0).1 = 11 ∧ (-2147483648 ≤ (((a4 + 12345).tmod 1000003).tmod 4) + 2 ∧ (((a4 + 12345).tmod 1000003).tmod 4) + 2 < 2147483648) ∧ (K (F x0 6)).1 = 0 ∧ PC l G 1 mX0_setWindow (0, 0) [(2, F x0 6), (0, a3), (0, (((a4 + 12345).tmod 1000003).tmod 4) + 2)] (n, K, F, E) (fun r μ => PW l G 32 mX11_days bg 134 [(0, (2, x0)), (2, (0, x2)), (3, (0, a6)), (4, (0, x4))] (r.toList ++ []) μ Q)) ∧ (¬ (7 ≤ a6.tmod 8) → (K x0).1 = 11 ∧ PC l G 31 mX11_comeTo (0, 0) [(2, x0), (2, F x0 6), (2, (-1)), (0, a3), (0, ((a4 + 12345).tmod 1000003).tmod 4), (0, (a5.tmod 1000003).tmod 4)] (n, K, F, E) (fun r μ => PW l G 32 mX11_days bg 117 [(0, (2, x0)), (2, (0, x2)), (3, (0, a6)), (4, (0, x4))] (r.toList ++ []) μ Q)))))))))) : PW l G 32 mX11_days bg 52 [(0, (2, x0)), (2, (0, x2)), (3, (0, x3)), (4, (0, x4))] [] (n, K, F, E) Q := by
  refine s_iload (q := 54) 28 3 rfl rfl ?_
  refine s_iload_n (q := 55) 29 1 rfl rfl ?_
  refine s_icmp_ge (q := 58) (tgt := 141) 30 rfl rfl (fun hb => ?_) (fun hb => ?_)
  · skip
    have b1 := hb
    replace h := h.1 hb
    refine s_aload_n (q := 142) 80 0 rfl rfl ?_
    refine s_aload_n (q := 143) 81 0 rfl rfl ?_
    obtain ⟨c2, h⟩ := h
    refine n_getf (q := 146) (jj := 6) 82 11 6 rfl kX11_41 c2 ?_
    obtain ⟨c3, h⟩ := h
    refine n_callV (N := mX0_resultsEver) (as := []) (st := [(2, x0)]) (q := 149) (d' := 0) 83 rfl uX0_resultsEver kX11_320 rfl c3 ?_
    show PW l G 0 mX0_resultsEver (0, 0) 0 [(0, (2, F x0 6))] [] (n, K, F, E) _
    refine s_aload_n (q := 1) 0 0 rfl rfl ?_
    refine n_getf (q := 4) (jj := 0) 1 0 0 rfl kX0_11 c3 ?_
    refine s_iconst (q := 5) 2 rfl ?_
    obtain ⟨c4, h⟩ := h
    obtain ⟨c5, h⟩ := h
    refine n_iald (q := 6) 3 rfl c4 c5 ?_
    refine s_iret 4 rfl rfl ?_
    show PW l G 32 mX11_days bg 149 [(0, (2, x0)), (2, (0, x2)), (3, (0, x3)), (4, (0, x4))] [(0, E (F (F x0 6) 0) 2), (2, x0)] (n, K, F, E) Q
    refine s_aload_n (q := 150) 84 0 rfl rfl ?_
    refine n_getf (q := 153) (jj := 0) 85 11 0 rfl kX11_10 c2 ?_
    obtain ⟨c6, h⟩ := h
    refine n_getf (q := 156) (jj := 0) 86 1 0 rfl kX11_125 c6 ?_
    obtain ⟨c7, h⟩ := h
    refine n_callV (N := mX0_resultsEver) (as := []) (st := [(0, E (F (F x0 6) 0) 2), (2, x0)]) (q := 159) (d' := 0) 87 rfl uX0_resultsEver kX11_320 rfl c7 ?_
    show PW l G 0 mX0_resultsEver (0, 0) 0 [(0, (2, F (F x0 0) 0))] [] (n, K, F, E) _
    refine s_aload_n (q := 1) 0 0 rfl rfl ?_
    refine n_getf (q := 4) (jj := 0) 1 0 0 rfl kX0_11 c7 ?_
    refine s_iconst (q := 5) 2 rfl ?_
    obtain ⟨c8, h⟩ := h
    obtain ⟨c9, h⟩ := h
    refine n_iald (q := 6) 3 rfl c8 c9 ?_
    refine s_iret 4 rfl rfl ?_
    show PW l G 32 mX11_days bg 159 [(0, (2, x0)), (2, (0, x2)), (3, (0, x3)), (4, (0, x4))] [(0, E (F (F (F x0 0) 0) 0) 2), (0, E (F (F x0 6) 0) 2), (2, x0)] (n, K, F, E) Q
    refine s_isub (q := 160) 88 rfl ?_
    refine PW.name (fun a1 ea1 => ?_)
    replace h := h a1 ea1
    refine n_callV (N := mX11_accept) (as := [(0, a1)]) (st := []) (q := 163) (d' := 0) 89 rfl uX11_accept kX11_157 rfl c2 ?_
    show PW l G 0 mX11_accept (0, 0) 0 [(0, (2, x0)), (1, (0, a1))] [] (n, K, F, E) _
    refine s_aload_n (q := 1) 0 0 rfl rfl ?_
    refine s_iconst (q := 2) 1 rfl ?_
    refine n_putf (q := 5) (jj := 16) 2 11 16 rfl kX11_97 c2 (Or.inl rfl) ?_
    refine PW.nameF (fun F2 eF2 => ?_)
    replace h := h F2 eF2
    refine s_iload_n (q := 6) 3 1 rfl rfl ?_
    refine s_iret 4 rfl rfl ?_
    show PW l G 32 mX11_days bg 163 [(0, (2, x0)), (2, (0, x2)), (3, (0, x3)), (4, (0, x4))] [(0, a1)] (n, K, F2, E) Q
    exact s_iret 90 rfl rfl h
  · skip
    have b1 := hb
    replace h := h.2 hb
    refine s_iload_n (q := 59) 31 2 rfl rfl ?_
    refine n_callS (N := mX11_drawBehind) (as := [(0, x3)]) (st := []) (q := 62) (d' := 0) 32 rfl uX11_drawBehind kX11_314 rfl ?_
    show PW l G 0 mX11_drawBehind (0, 0) 0 [(0, (0, x3))] [] (n, K, F, E) _
    refine s_iload_n (q := 1) 0 0 rfl rfl ?_
    refine s_i2l (q := 2) 1 rfl ?_
    refine s_ldc2 (q := 5) (x := 1103) 2 rfl kX11_420 ?_
    refine s_lmul (q := 6) 3 rfl ?_
    refine s_ldc2 (q := 9) (x := 12345) 4 rfl kX11_422 ?_
    obtain ⟨c10, h⟩ := h
    refine n_ladd (q := 10) 5 rfl c10 ?_
    refine s_ldc2 (q := 13) (x := 1000003) 6 rfl kX11_424 ?_
    refine s_lrem (q := 14) 7 rfl (by decide) ?_
    obtain ⟨c11, h⟩ := h
    refine n_l2i (q := 15) 8 rfl c11 ?_
    refine s_iret 9 rfl rfl ?_
    show PW l G 32 mX11_days bg 62 [(0, (2, x0)), (2, (0, x2)), (3, (0, x3)), (4, (0, x4))] [(0, ((w64 (x3 * 1103)) + 12345).tmod 1000003)] (n, K, F, E) Q
    refine s_istore_n (q := 63) (lv' := [(3, (0, ((w64 (x3 * 1103)) + 12345).tmod 1000003)), (0, (2, x0)), (2, (0, x2)), (4, (0, x4))]) 33 rfl rfl ?_
    refine s_iload_n (q := 64) 34 0 rfl rfl ?_
    refine s_iconst (q := 65) 35 rfl ?_
    refine s_irem (q := 66) 36 rfl (by decide) ?_
    refine PW.name (fun a3 ea3 => ?_)
    replace h := h a3 ea3
    refine s_istore (q := 68) (lv' := [(5, (0, a3)), (3, (0, ((w64 (x3 * 1103)) + 12345).tmod 1000003)), (0, (2, x0)), (2, (0, x2)), (4, (0, x4))]) 37 rfl rfl ?_
    refine s_iload_n (q := 69) 38 1 rfl rfl ?_
    refine n_callS (N := mX11_drawBehind) (as := [(0, ((w64 (x3 * 1103)) + 12345).tmod 1000003)]) (st := []) (q := 72) (d' := 0) 39 rfl uX11_drawBehind kX11_314 rfl ?_
    show PW l G 0 mX11_drawBehind (0, 0) 0 [(0, (0, ((w64 (x3 * 1103)) + 12345).tmod 1000003))] [] (n, K, F, E) _
    refine s_iload_n (q := 1) 0 0 rfl rfl ?_
    refine s_i2l (q := 2) 1 rfl ?_
    refine s_ldc2 (q := 5) (x := 1103) 2 rfl kX11_420 ?_
    refine s_lmul (q := 6) 3 rfl ?_
    refine PW.name (fun a4 ea4 => ?_)
    replace h := h a4 ea4
    refine s_ldc2 (q := 9) (x := 12345) 4 rfl kX11_422 ?_
    obtain ⟨c12, h⟩ := h
    refine n_ladd (q := 10) 5 rfl c12 ?_
    refine s_ldc2 (q := 13) (x := 1000003) 6 rfl kX11_424 ?_
    refine s_lrem (q := 14) 7 rfl (by decide) ?_
    obtain ⟨c13, h⟩ := h
    refine n_l2i (q := 15) 8 rfl c13 ?_
    refine s_iret 9 rfl rfl ?_
    show PW l G 32 mX11_days bg 72 [(5, (0, a3)), (3, (0, ((w64 (x3 * 1103)) + 12345).tmod 1000003)), (0, (2, x0)), (2, (0, x2)), (4, (0, x4))] [(0, (a4 + 12345).tmod 1000003)] (n, K, F, E) Q
    refine s_istore_n (q := 73) (lv' := [(3, (0, (a4 + 12345).tmod 1000003)), (5, (0, a3)), (0, (2, x0)), (2, (0, x2)), (4, (0, x4))]) 40 rfl rfl ?_
    refine s_iload_n (q := 74) 41 0 rfl rfl ?_
    refine s_iconst (q := 75) 42 rfl ?_
    refine s_irem (q := 76) 43 rfl (by decide) ?_
    refine s_istore (q := 78) (lv' := [(6, (0, ((a4 + 12345).tmod 1000003).tmod 4)), (3, (0, (a4 + 12345).tmod 1000003)), (5, (0, a3)), (0, (2, x0)), (2, (0, x2)), (4, (0, x4))]) 44 rfl rfl ?_
    refine s_iload_n (q := 79) 45 1 rfl rfl ?_
    refine n_callS (N := mX11_drawBehind) (as := [(0, (a4 + 12345).tmod 1000003)]) (st := []) (q := 82) (d' := 0) 46 rfl uX11_drawBehind kX11_314 rfl ?_
    show PW l G 0 mX11_drawBehind (0, 0) 0 [(0, (0, (a4 + 12345).tmod 1000003))] [] (n, K, F, E) _
    refine s_iload_n (q := 1) 0 0 rfl rfl ?_
    refine s_i2l (q := 2) 1 rfl ?_
    refine s_ldc2 (q := 5) (x := 1103) 2 rfl kX11_420 ?_
    refine s_lmul (q := 6) 3 rfl ?_
    refine s_ldc2 (q := 9) (x := 12345) 4 rfl kX11_422 ?_
    obtain ⟨c14, h⟩ := h
    refine n_ladd (q := 10) 5 rfl c14 ?_
    refine PW.name (fun a5 ea5 => ?_)
    replace h := h a5 ea5
    refine s_ldc2 (q := 13) (x := 1000003) 6 rfl kX11_424 ?_
    refine s_lrem (q := 14) 7 rfl (by decide) ?_
    obtain ⟨c15, h⟩ := h
    refine n_l2i (q := 15) 8 rfl c15 ?_
    refine s_iret 9 rfl rfl ?_
    show PW l G 32 mX11_days bg 82 [(6, (0, ((a4 + 12345).tmod 1000003).tmod 4)), (3, (0, (a4 + 12345).tmod 1000003)), (5, (0, a3)), (0, (2, x0)), (2, (0, x2)), (4, (0, x4))] [(0, a5.tmod 1000003)] (n, K, F, E) Q
    refine s_istore_n (q := 83) (lv' := [(3, (0, a5.tmod 1000003)), (6, (0, ((a4 + 12345).tmod 1000003).tmod 4)), (5, (0, a3)), (0, (2, x0)), (2, (0, x2)), (4, (0, x4))]) 47 rfl rfl ?_
    refine s_iload_n (q := 84) 48 0 rfl rfl ?_
    refine s_iconst (q := 85) 49 rfl ?_
    refine s_irem (q := 86) 50 rfl (by decide) ?_
    refine s_istore (q := 88) (lv' := [(7, (0, (a5.tmod 1000003).tmod 4)), (3, (0, a5.tmod 1000003)), (6, (0, ((a4 + 12345).tmod 1000003).tmod 4)), (5, (0, a3)), (0, (2, x0)), (2, (0, x2)), (4, (0, x4))]) 51 rfl rfl ?_
    refine s_iload_n (q := 89) 52 1 rfl rfl ?_
    refine n_callS (N := mX11_drawBehind) (as := [(0, a5.tmod 1000003)]) (st := []) (q := 92) (d' := 0) 53 rfl uX11_drawBehind kX11_314 rfl ?_
    show PW l G 0 mX11_drawBehind (0, 0) 0 [(0, (0, a5.tmod 1000003))] [] (n, K, F, E) _
    refine s_iload_n (q := 1) 0 0 rfl rfl ?_
    refine s_i2l (q := 2) 1 rfl ?_
    refine s_ldc2 (q := 5) (x := 1103) 2 rfl kX11_420 ?_
    refine s_lmul (q := 6) 3 rfl ?_
    refine s_ldc2 (q := 9) (x := 12345) 4 rfl kX11_422 ?_
    obtain ⟨c16, h⟩ := h
    refine n_ladd (q := 10) 5 rfl c16 ?_
    refine s_ldc2 (q := 13) (x := 1000003) 6 rfl kX11_424 ?_
    refine s_lrem (q := 14) 7 rfl (by decide) ?_
    refine PW.name (fun a6 ea6 => ?_)
    replace h := h a6 ea6
    obtain ⟨c17, h⟩ := h
    refine n_l2i (q := 15) 8 rfl c17 ?_
    refine s_iret 9 rfl rfl ?_
    show PW l G 32 mX11_days bg 92 [(7, (0, (a5.tmod 1000003).tmod 4)), (3, (0, a5.tmod 1000003)), (6, (0, ((a4 + 12345).tmod 1000003).tmod 4)), (5, (0, a3)), (0, (2, x0)), (2, (0, x2)), (4, (0, x4))] [(0, a6)] (n, K, F, E) Q
    refine s_istore_n (q := 93) (lv' := [(3, (0, a6)), (7, (0, (a5.tmod 1000003).tmod 4)), (6, (0, ((a4 + 12345).tmod 1000003).tmod 4)), (5, (0, a3)), (0, (2, x0)), (2, (0, x2)), (4, (0, x4))]) 54 rfl rfl ?_
    refine s_iload_n (q := 94) 55 0 rfl rfl ?_
    refine s_bipush (q := 96) 56 rfl ?_
    refine s_irem (q := 97) 57 rfl (by decide) ?_
    refine s_bipush (q := 99) 58 rfl ?_
    refine s_icmp_ge (q := 102) (tgt := 121) 59 rfl rfl (fun hb => ?_) (fun hb => ?_)
    · skip
      have b18 := hb
      replace h := h.1 hb
      refine s_aload_n (q := 122) 70 4 rfl rfl ?_
      obtain ⟨c19, h⟩ := h
      refine n_getf (q := 125) (jj := 6) 71 11 6 rfl kX11_41 c19 ?_
      refine s_iload (q := 127) 72 3 rfl rfl ?_
      refine s_iload (q := 129) 73 2 rfl rfl ?_
      refine s_iconst (q := 130) 74 rfl ?_
      obtain ⟨c20, h⟩ := h
      refine n_iadd (q := 131) 75 rfl c20 ?_
      obtain ⟨c21, h⟩ := h
      refine PW.pick [4, 5, 0, 6] rfl ?_
      exact n_callV (N := mX0_setWindow) (as := [(0, a3), (0, (((a4 + 12345).tmod 1000003).tmod 4) + 2)]) (st := []) (q := 134) (d' := 1) 76 rfl uX0_setWindow kX11_317 rfl c21 h
    · skip
      have b18 := hb
      replace h := h.2 hb
      refine s_aload_n (q := 103) 60 4 rfl rfl ?_
      refine s_aload_n (q := 104) 61 4 rfl rfl ?_
      obtain ⟨c22, h⟩ := h
      refine n_getf (q := 107) (jj := 6) 62 11 6 rfl kX11_41 c22 ?_
      refine s_null (q := 108) 63 rfl ?_
      refine s_iload (q := 110) 64 3 rfl rfl ?_
      refine s_iload (q := 112) 65 2 rfl rfl ?_
      refine s_iload (q := 114) 66 1 rfl rfl ?_
      refine PW.pick [4, 5, 0, 6] rfl ?_
      exact n_callV (N := mX11_comeTo) (as := [(2, F x0 6), (2, (-1)), (0, a3), (0, ((a4 + 12345).tmod 1000003).tmod 4), (0, (a5.tmod 1000003).tmod 4)]) (st := []) (q := 117) (d' := 31) 67 rfl uX11_comeTo kX11_172 rfl c22 h
theorem vX11_days_117 {l : Launch} {G : pG} {bg : Nat × Nat} {n : Nat} {K : Int → Nat × Nat} {F E : Int → Int → Int} {Q : Option pV → pM → Prop} (x0 x2 x3 x4 s0 : Int) (h : (-2147483648 ≤ x4 + 1 ∧ x4 + 1 < 2147483648) ∧ PW l G 32 mX11_days bg 52 [(0, (2, x0)), (2, (0, x2)), (3, (0, x3)), (4, (0, x4 + 1))] [] (n, K, F, E) Q) : PW l G 32 mX11_days bg 117 [(0, (2, x0)), (2, (0, x2)), (3, (0, x3)), (4, (0, x4))] [(0, s0)] (n, K, F, E) Q := by
  refine s_pop (q := 118) 68 rfl ?_
  refine s_goto (tgt := 135) 69 rfl rfl ?_
  obtain ⟨c1, h⟩ := h
  refine n_iinc (q := 138) (lv' := [(4, (0, x4 + 1)), (0, (2, x0)), (2, (0, x2)), (3, (0, x3))]) 78 3 rfl rfl c1 rfl ?_
  refine s_goto (tgt := 52) 79 rfl rfl ?_
  refine PW.pick [1, 2, 3, 0] rfl ?_
  exact h
theorem vX11_days_134 {l : Launch} {G : pG} {bg : Nat × Nat} {n : Nat} {K : Int → Nat × Nat} {F E : Int → Int → Int} {Q : Option pV → pM → Prop} (x0 x2 x3 x4 s0 : Int) (h : (-2147483648 ≤ x4 + 1 ∧ x4 + 1 < 2147483648) ∧ PW l G 32 mX11_days bg 52 [(0, (2, x0)), (2, (0, x2)), (3, (0, x3)), (4, (0, x4 + 1))] [] (n, K, F, E) Q) : PW l G 32 mX11_days bg 134 [(0, (2, x0)), (2, (0, x2)), (3, (0, x3)), (4, (0, x4))] [(0, s0)] (n, K, F, E) Q := by
  refine s_pop (q := 135) 77 rfl ?_
  obtain ⟨c1, h⟩ := h
  refine n_iinc (q := 138) (lv' := [(4, (0, x4 + 1)), (0, (2, x0)), (2, (0, x2)), (3, (0, x3))]) 78 3 rfl rfl c1 rfl ?_
  refine s_goto (tgt := 52) 79 rfl rfl ?_
  refine PW.pick [1, 2, 3, 0] rfl ?_
  exact h
theorem vX11_drawn_0 {l : Launch} {G : pG} {bg : Nat × Nat} {n : Nat} {K : Int → Nat × Nat} {F E : Int → Int → Int} {Q : Option pV → pM → Prop} (x0 x1 x2 : Int) (h : (K x0).1 = 11 ∧ ((F x0 7 = 0 → ((F x0 7 = 0 → Q (some (0, (-1000))) (n, K, F, E)) ∧ (¬ (F x0 7 = 0) → ((¬ x2 = 1 → Q (some (0, (-1000))) (n, K, F, E)) ∧ (x2 = 1 → ((¬ (0 ≤ x1 ∧ x1 < 3) → Q (some (0, (-1000))) (n, K, F, E)) ∧ (0 ≤ x1 ∧ x1 < 3 → (K (F x0 6)).1 = 0 ∧ (-2147483648 ≤ 9 + x1 ∧ 9 + x1 < 2147483648) ∧ (K (F (F x0 6) 0)).1 = 20 ∧ ((0 : Int) ≤ 9 + x1 ∧ 9 + x1 < ((K (F (F x0 6) 0)).2 : Int)) ∧ Q (some (0, E (F (F x0 6) 0) (9 + x1))) (n, K, F, E)))))))) ∧ (¬ (F x0 7 = 0) → ((¬ x2 = 0 → ((F x0 7 = 0 → Q (some (0, (-1000))) (n, K, F, E)) ∧ (¬ (F x0 7 = 0) → ((¬ x2 = 1 → Q (some (0, (-1000))) (n, K, F, E)) ∧ (x2 = 1 → ((¬ (0 ≤ x1 ∧ x1 < 3) → Q (some (0, (-1000))) (n, K, F, E)) ∧ (0 ≤ x1 ∧ x1 < 3 → (K (F x0 6)).1 = 0 ∧ (-2147483648 ≤ 9 + x1 ∧ 9 + x1 < 2147483648) ∧ (K (F (F x0 6) 0)).1 = 20 ∧ ((0 : Int) ≤ 9 + x1 ∧ 9 + x1 < ((K (F (F x0 6) 0)).2 : Int)) ∧ Q (some (0, E (F (F x0 6) 0) (9 + x1))) (n, K, F, E)))))))) ∧ (x2 = 0 → (K (F x0 6)).1 = 0 ∧ (K (F (F x0 6) 0)).1 = 20 ∧ ((0 : Int) ≤ 0 ∧ 0 < ((K (F (F x0 6) 0)).2 : Int)) ∧ ((¬ (0 ≤ x1 ∧ x1 < E (F (F x0 6) 0) 0) → ((F x0 7 = 0 → Q (some (0, (-1000))) (n, K, F, E)) ∧ (¬ (F x0 7 = 0) → ((¬ x2 = 1 → Q (some (0, (-1000))) (n, K, F, E)) ∧ (x2 = 1 → ((¬ (0 ≤ x1 ∧ x1 < 3) → Q (some (0, (-1000))) (n, K, F, E)) ∧ (0 ≤ x1 ∧ x1 < 3 → (-2147483648 ≤ 9 + x1 ∧ 9 + x1 < 2147483648) ∧ ((0 : Int) ≤ 9 + x1 ∧ 9 + x1 < ((K (F (F x0 6) 0)).2 : Int)) ∧ Q (some (0, E (F (F x0 6) 0) (9 + x1))) (n, K, F, E)))))))) ∧ (0 ≤ x1 ∧ x1 < E (F (F x0 6) 0) 0 → (-2147483648 ≤ x1 * 6 ∧ x1 * 6 < 2147483648) ∧ (-2147483648 ≤ 12 + (x1 * 6) ∧ 12 + (x1 * 6) < 2147483648) ∧ (-2147483648 ≤ (12 + (x1 * 6)) + 5 ∧ (12 + (x1 * 6)) + 5 < 2147483648) ∧ ((0 : Int) ≤ (12 + (x1 * 6)) + 5 ∧ (12 + (x1 * 6)) + 5 < ((K (F (F x0 6) 0)).2 : Int)) ∧ Q (some (0, E (F (F x0 6) 0) ((12 + (x1 * 6)) + 5))) (n, K, F, E)))))))) : PW l G 1 mX11_drawn bg 0 [(0, (2, x0)), (1, (0, x1)), (2, (0, x2))] [] (n, K, F, E) Q := by
  refine s_aload_n (q := 1) 0 0 rfl rfl ?_
  obtain ⟨c1, h⟩ := h
  refine n_getf (q := 4) (jj := 7) 1 11 7 rfl kX11_44 c1 ?_
  refine s_if_eq (q := 7) (tgt := 32) 2 rfl rfl (fun hb => ?_) (fun hb => ?_)
  · skip
    have b2 := hb
    replace h := h.1 hb
    refine s_aload_n (q := 33) 16 0 rfl rfl ?_
    refine n_getf (q := 36) (jj := 7) 17 11 7 rfl kX11_44 c1 ?_
    refine s_if_eq (q := 39) (tgt := 60) 18 rfl rfl (fun hb => ?_) (fun hb => ?_)
    · skip
      have b3 := hb
      replace h := h.1 hb
      refine s_sipush (q := 63) 30 rfl ?_
      exact s_iret 31 rfl rfl h
    · skip
      have b3 := hb
      replace h := h.2 hb
      refine s_iload_n (q := 40) 19 2 rfl rfl ?_
      refine s_iconst (q := 41) 20 rfl ?_
      refine s_icmp_ne (q := 44) (tgt := 60) 21 rfl rfl (fun hb => ?_) (fun hb => ?_)
      · skip
        have b4 := hb
        replace h := h.1 hb
        refine s_sipush (q := 63) 30 rfl ?_
        exact s_iret 31 rfl rfl h
      · have hb := Classical.not_not.mp hb
        have b4 := hb
        replace h := h.2 hb
        refine s_iload_n (q := 45) 22 1 rfl rfl ?_
        refine n_callS (N := mX11_isRelation) (as := [(0, x1)]) (st := []) (q := 48) (d' := 0) 23 rfl uX11_isRelation kX11_107 rfl (pX11_isRelation ?_)
        show PW l G 1 mX11_drawn bg 48 [(0, (2, x0)), (1, (0, x1)), (2, (0, x2))] [(0, bI (0 ≤ x1 ∧ x1 < 3))] (n, K, F, E) Q
        refine s_if_eq (q := 51) (tgt := 60) 24 rfl rfl (fun hb => ?_) (fun hb => ?_)
        · have hb := bI_f hb
          have b5 := hb
          replace h := h.1 hb
          refine s_sipush (q := 63) 30 rfl ?_
          exact s_iret 31 rfl rfl h
        · have hb := bI_t hb
          have b5 := hb
          replace h := h.2 hb
          refine s_aload_n (q := 52) 25 0 rfl rfl ?_
          refine n_getf (q := 55) (jj := 6) 26 11 6 rfl kX11_41 c1 ?_
          refine s_iload_n (q := 56) 27 1 rfl rfl ?_
          obtain ⟨c6, h⟩ := h
          refine n_callV (N := mX0_held) (as := [(0, x1)]) (st := []) (q := 59) (d' := 0) 28 rfl uX0_held kX11_141 rfl c6 ?_
          show PW l G 0 mX0_held (0, 0) 0 [(0, (2, F x0 6)), (1, (0, x1))] [] (n, K, F, E) _
          refine s_aload_n (q := 1) 0 0 rfl rfl ?_
          refine n_getf (q := 4) (jj := 0) 1 0 0 rfl kX0_11 c6 ?_
          refine s_bipush (q := 6) 2 rfl ?_
          refine s_iload_n (q := 7) 3 1 rfl rfl ?_
          obtain ⟨c7, h⟩ := h
          refine n_iadd (q := 8) 4 rfl c7 ?_
          obtain ⟨c8, h⟩ := h
          obtain ⟨c9, h⟩ := h
          refine n_iald (q := 9) 5 rfl c8 c9 ?_
          refine s_iret 6 rfl rfl ?_
          show PW l G 1 mX11_drawn bg 59 [(0, (2, x0)), (1, (0, x1)), (2, (0, x2))] [(0, E (F (F x0 6) 0) (9 + x1))] (n, K, F, E) Q
          exact s_iret 29 rfl rfl h
  · skip
    have b2 := hb
    replace h := h.2 hb
    refine s_iload_n (q := 8) 3 2 rfl rfl ?_
    refine s_if_ne (q := 11) (tgt := 32) 4 rfl rfl (fun hb => ?_) (fun hb => ?_)
    · skip
      have b10 := hb
      replace h := h.1 hb
      refine s_aload_n (q := 33) 16 0 rfl rfl ?_
      refine n_getf (q := 36) (jj := 7) 17 11 7 rfl kX11_44 c1 ?_
      refine s_if_eq (q := 39) (tgt := 60) 18 rfl rfl (fun hb => ?_) (fun hb => ?_)
      · skip
        have b11 := hb
        replace h := h.1 hb
        refine s_sipush (q := 63) 30 rfl ?_
        exact s_iret 31 rfl rfl h
      · skip
        have b11 := hb
        replace h := h.2 hb
        refine s_iload_n (q := 40) 19 2 rfl rfl ?_
        refine s_iconst (q := 41) 20 rfl ?_
        refine s_icmp_ne (q := 44) (tgt := 60) 21 rfl rfl (fun hb => ?_) (fun hb => ?_)
        · skip
          have b12 := hb
          replace h := h.1 hb
          refine s_sipush (q := 63) 30 rfl ?_
          exact s_iret 31 rfl rfl h
        · have hb := Classical.not_not.mp hb
          have b12 := hb
          replace h := h.2 hb
          refine s_iload_n (q := 45) 22 1 rfl rfl ?_
          refine n_callS (N := mX11_isRelation) (as := [(0, x1)]) (st := []) (q := 48) (d' := 0) 23 rfl uX11_isRelation kX11_107 rfl (pX11_isRelation ?_)
          show PW l G 1 mX11_drawn bg 48 [(0, (2, x0)), (1, (0, x1)), (2, (0, x2))] [(0, bI (0 ≤ x1 ∧ x1 < 3))] (n, K, F, E) Q
          refine s_if_eq (q := 51) (tgt := 60) 24 rfl rfl (fun hb => ?_) (fun hb => ?_)
          · have hb := bI_f hb
            have b13 := hb
            replace h := h.1 hb
            refine s_sipush (q := 63) 30 rfl ?_
            exact s_iret 31 rfl rfl h
          · have hb := bI_t hb
            have b13 := hb
            replace h := h.2 hb
            refine s_aload_n (q := 52) 25 0 rfl rfl ?_
            refine n_getf (q := 55) (jj := 6) 26 11 6 rfl kX11_41 c1 ?_
            refine s_iload_n (q := 56) 27 1 rfl rfl ?_
            obtain ⟨c14, h⟩ := h
            refine n_callV (N := mX0_held) (as := [(0, x1)]) (st := []) (q := 59) (d' := 0) 28 rfl uX0_held kX11_141 rfl c14 ?_
            show PW l G 0 mX0_held (0, 0) 0 [(0, (2, F x0 6)), (1, (0, x1))] [] (n, K, F, E) _
            refine s_aload_n (q := 1) 0 0 rfl rfl ?_
            refine n_getf (q := 4) (jj := 0) 1 0 0 rfl kX0_11 c14 ?_
            refine s_bipush (q := 6) 2 rfl ?_
            refine s_iload_n (q := 7) 3 1 rfl rfl ?_
            obtain ⟨c15, h⟩ := h
            refine n_iadd (q := 8) 4 rfl c15 ?_
            obtain ⟨c16, h⟩ := h
            obtain ⟨c17, h⟩ := h
            refine n_iald (q := 9) 5 rfl c16 c17 ?_
            refine s_iret 6 rfl rfl ?_
            show PW l G 1 mX11_drawn bg 59 [(0, (2, x0)), (1, (0, x1)), (2, (0, x2))] [(0, E (F (F x0 6) 0) (9 + x1))] (n, K, F, E) Q
            exact s_iret 29 rfl rfl h
    · have hb := Classical.not_not.mp hb
      have b10 := hb
      replace h := h.2 hb
      refine s_aload_n (q := 12) 5 0 rfl rfl ?_
      refine n_getf (q := 15) (jj := 6) 6 11 6 rfl kX11_41 c1 ?_
      refine s_iload_n (q := 16) 7 1 rfl rfl ?_
      obtain ⟨c18, h⟩ := h
      obtain ⟨c19, h⟩ := h
      obtain ⟨c20, h⟩ := h
      refine n_callV (N := mX0_hasOperator) (as := [(0, x1)]) (st := []) (q := 19) (d' := 0) 8 rfl uX0_hasOperator kX11_128 rfl c18 (pX0_hasOperator c18 c19 c20 ?_)
      show PW l G 1 mX11_drawn bg 19 [(0, (2, x0)), (1, (0, x1)), (2, (0, x2))] [(0, bI (0 ≤ x1 ∧ x1 < E (F (F x0 6) 0) 0))] (n, K, F, E) Q
      refine s_if_eq (q := 22) (tgt := 32) 9 rfl rfl (fun hb => ?_) (fun hb => ?_)
      · have hb := bI_f hb
        have b21 := hb
        replace h := h.1 hb
        refine s_aload_n (q := 33) 16 0 rfl rfl ?_
        refine n_getf (q := 36) (jj := 7) 17 11 7 rfl kX11_44 c1 ?_
        refine s_if_eq (q := 39) (tgt := 60) 18 rfl rfl (fun hb => ?_) (fun hb => ?_)
        · skip
          have b22 := hb
          replace h := h.1 hb
          refine s_sipush (q := 63) 30 rfl ?_
          exact s_iret 31 rfl rfl h
        · skip
          have b22 := hb
          replace h := h.2 hb
          refine s_iload_n (q := 40) 19 2 rfl rfl ?_
          refine s_iconst (q := 41) 20 rfl ?_
          refine s_icmp_ne (q := 44) (tgt := 60) 21 rfl rfl (fun hb => ?_) (fun hb => ?_)
          · skip
            have b23 := hb
            replace h := h.1 hb
            refine s_sipush (q := 63) 30 rfl ?_
            exact s_iret 31 rfl rfl h
          · have hb := Classical.not_not.mp hb
            have b23 := hb
            replace h := h.2 hb
            refine s_iload_n (q := 45) 22 1 rfl rfl ?_
            refine n_callS (N := mX11_isRelation) (as := [(0, x1)]) (st := []) (q := 48) (d' := 0) 23 rfl uX11_isRelation kX11_107 rfl (pX11_isRelation ?_)
            show PW l G 1 mX11_drawn bg 48 [(0, (2, x0)), (1, (0, x1)), (2, (0, x2))] [(0, bI (0 ≤ x1 ∧ x1 < 3))] (n, K, F, E) Q
            refine s_if_eq (q := 51) (tgt := 60) 24 rfl rfl (fun hb => ?_) (fun hb => ?_)
            · have hb := bI_f hb
              have b24 := hb
              replace h := h.1 hb
              refine s_sipush (q := 63) 30 rfl ?_
              exact s_iret 31 rfl rfl h
            · have hb := bI_t hb
              have b24 := hb
              replace h := h.2 hb
              refine s_aload_n (q := 52) 25 0 rfl rfl ?_
              refine n_getf (q := 55) (jj := 6) 26 11 6 rfl kX11_41 c1 ?_
              refine s_iload_n (q := 56) 27 1 rfl rfl ?_
              refine n_callV (N := mX0_held) (as := [(0, x1)]) (st := []) (q := 59) (d' := 0) 28 rfl uX0_held kX11_141 rfl c18 ?_
              show PW l G 0 mX0_held (0, 0) 0 [(0, (2, F x0 6)), (1, (0, x1))] [] (n, K, F, E) _
              refine s_aload_n (q := 1) 0 0 rfl rfl ?_
              refine n_getf (q := 4) (jj := 0) 1 0 0 rfl kX0_11 c18 ?_
              refine s_bipush (q := 6) 2 rfl ?_
              refine s_iload_n (q := 7) 3 1 rfl rfl ?_
              obtain ⟨c25, h⟩ := h
              refine n_iadd (q := 8) 4 rfl c25 ?_
              obtain ⟨c26, h⟩ := h
              refine n_iald (q := 9) 5 rfl c19 c26 ?_
              refine s_iret 6 rfl rfl ?_
              show PW l G 1 mX11_drawn bg 59 [(0, (2, x0)), (1, (0, x1)), (2, (0, x2))] [(0, E (F (F x0 6) 0) (9 + x1))] (n, K, F, E) Q
              exact s_iret 29 rfl rfl h
      · have hb := bI_t hb
        have b21 := hb
        replace h := h.2 hb
        refine s_aload_n (q := 23) 10 0 rfl rfl ?_
        refine n_getf (q := 26) (jj := 6) 11 11 6 rfl kX11_41 c1 ?_
        refine s_iload_n (q := 27) 12 1 rfl rfl ?_
        refine s_iconst (q := 28) 13 rfl ?_
        refine n_callV (N := mX0_part) (as := [(0, x1), (0, 5)]) (st := []) (q := 31) (d' := 0) 14 rfl uX0_part kX11_131 rfl c18 ?_
        show PW l G 0 mX0_part (0, 0) 0 [(0, (2, F x0 6)), (1, (0, x1)), (2, (0, 5))] [] (n, K, F, E) _
        refine s_aload_n (q := 1) 0 0 rfl rfl ?_
        refine n_getf (q := 4) (jj := 0) 1 0 0 rfl kX0_11 c18 ?_
        refine s_bipush (q := 6) 2 rfl ?_
        refine s_iload_n (q := 7) 3 1 rfl rfl ?_
        refine s_bipush (q := 9) 4 rfl ?_
        obtain ⟨c27, h⟩ := h
        refine n_imul (q := 10) 5 rfl c27 ?_
        obtain ⟨c28, h⟩ := h
        refine n_iadd (q := 11) 6 rfl c28 ?_
        refine s_iload_n (q := 12) 7 2 rfl rfl ?_
        obtain ⟨c29, h⟩ := h
        refine n_iadd (q := 13) 8 rfl c29 ?_
        obtain ⟨c30, h⟩ := h
        refine n_iald (q := 14) 9 rfl c19 c30 ?_
        refine s_iret 10 rfl rfl ?_
        show PW l G 1 mX11_drawn bg 31 [(0, (2, x0)), (1, (0, x1)), (2, (0, x2))] [(0, E (F (F x0 6) 0) ((12 + (x1 * 6)) + 5))] (n, K, F, E) Q
        exact s_iret 15 rfl rfl h
theorem vX11_image_0 {l : Launch} {G : pG} {bg : Nat × Nat} {n : Nat} {K : Int → Nat × Nat} {F E : Int → Int → Int} {Q : Option pV → pM → Prop} (x0 x1 : Int) (h : ((x1 < 0 → (K x0).1 = 11 ∧ (∀ F1, F1 = pUp F x0 16 (-1) → (K (F x0 13)).1 = 20 ∧ ((0 : Int) ≤ 0 ∧ 0 < ((K (F x0 13)).2 : Int)) ∧ (0 : Int) ≤ F x0 13 ∧ (∀ E2, E2 = pUp E (F x0 13) 0 (w32 ((E (F x0 13) 0) + 1)) → Q (some (0, (-1))) (n, K, F1, E2)))) ∧ (¬ (x1 < 0) → ((x1 < 2 → (K x0).1 = 11 ∧ (0 : Int) ≤ F x0 1 ∧ (K (F x0 1)).1 = 24 ∧ ((0 : Int) ≤ x1 ∧ x1 < ((K (F x0 1)).2 : Int)) ∧ (K (E (F x0 1) x1)).1 = 1 ∧ PC l G 1 mX1_copy (0, 0) [(2, E (F x0 1) x1), (2, F x0 0)] (n, K, F, E) (fun r μ => PW l G 2 mX11_image bg 28 [(0, (2, x0)), (1, (0, x1))] (r.toList ++ []) μ Q)) ∧ (¬ (x1 < 2) → (K x0).1 = 11 ∧ (∀ F3, F3 = pUp F x0 16 (-1) → (K (F x0 13)).1 = 20 ∧ ((0 : Int) ≤ 0 ∧ 0 < ((K (F x0 13)).2 : Int)) ∧ (0 : Int) ≤ F x0 13 ∧ (∀ E4, E4 = pUp E (F x0 13) 0 (w32 ((E (F x0 13) 0) + 1)) → Q (some (0, (-1))) (n, K, F3, E4)))))))) : PW l G 2 mX11_image bg 0 [(0, (2, x0)), (1, (0, x1))] [] (n, K, F, E) Q := by
  refine s_iload_n (q := 1) 0 1 rfl rfl ?_
  refine s_if_lt (q := 4) (tgt := 9) 1 rfl rfl (fun hb => ?_) (fun hb => ?_)
  · skip
    have b1 := hb
    replace h := h.1 hb
    refine s_aload_n (q := 10) 5 0 rfl rfl ?_
    refine s_iconst (q := 11) 6 rfl ?_
    obtain ⟨c2, h⟩ := h
    refine n_callV (N := mX11_refuse) (as := [(0, (-1))]) (st := []) (q := 14) (d' := 0) 7 rfl uX11_refuse kX11_114 rfl c2 ?_
    show PW l G 0 mX11_refuse (0, 0) 0 [(0, (2, x0)), (1, (0, (-1)))] [] (n, K, F, E) _
    refine s_aload_n (q := 1) 0 0 rfl rfl ?_
    refine s_iload_n (q := 2) 1 1 rfl rfl ?_
    refine n_putf (q := 5) (jj := 16) 2 11 16 rfl kX11_97 c2 (Or.inl rfl) ?_
    refine PW.nameF (fun F1 eF1 => ?_)
    replace h := h F1 eF1
    refine s_iload_n (q := 6) 3 1 rfl rfl ?_
    refine s_bipush (q := 8) 4 rfl ?_
    refine s_icmp_lt (q := 11) (tgt := 18) 5 rfl rfl (fun hb => absurd hb (by decide)) (fun _ => ?_)
    refine s_iload_n (q := 12) 6 1 rfl rfl ?_
    refine n_ineg (q := 13) 7 rfl (by decide) ?_
    refine PW.top (b := 1) (by decide) ?_
    refine s_iconst (q := 14) 8 rfl ?_
    refine n_isub (q := 15) 9 rfl (by decide) ?_
    refine PW.top (b := 0) (by decide) ?_
    refine s_goto (tgt := 22) 10 rfl rfl ?_
    refine s_istore_n (q := 23) (lv' := [(2, (0, 0)), (0, (2, x0)), (1, (0, (-1)))]) 15 rfl rfl ?_
    refine s_iload_n (q := 24) 16 0 rfl rfl ?_
    refine s_if_lt (q := 27) (tgt := 42) 17 rfl rfl (fun hb => absurd hb (by decide)) (fun _ => ?_)
    refine s_iload_n (q := 28) 18 0 rfl rfl ?_
    refine s_iconst (q := 29) 19 rfl ?_
    refine s_icmp_ge (q := 32) (tgt := 42) 20 rfl rfl (fun hb => absurd hb (by decide)) (fun _ => ?_)
    refine s_aload_n (q := 33) 21 1 rfl rfl ?_
    refine n_getf (q := 36) (jj := 13) 22 11 13 rfl kX11_87 c2 ?_
    refine PW.top (b := F x0 13) (by exact (congrFun (congrFun eF1 _) _).trans (pUp_k (by decide))) ?_
    refine s_iload_n (q := 37) 23 0 rfl rfl ?_
    refine s_dup2 (q := 38) 24 rfl ?_
    obtain ⟨c3, h⟩ := h
    obtain ⟨c4, h⟩ := h
    refine n_iald (q := 39) 25 rfl c3 c4 ?_
    refine s_iconst (q := 40) 26 rfl ?_
    refine s_iadd (q := 41) 27 rfl ?_
    obtain ⟨c5, h⟩ := h
    refine n_iast (q := 42) 28 rfl c5 c3 c4 ?_
    refine PW.nameE (fun E2 eE2 => ?_)
    replace h := h E2 eE2
    refine s_iload_n (q := 43) 29 2 rfl rfl ?_
    refine s_iret 30 rfl rfl ?_
    show PW l G 2 mX11_image bg 14 [(0, (2, x0)), (1, (0, x1))] [(0, (-1))] (n, K, F1, E2) Q
    exact s_iret 8 rfl rfl h
  · skip
    have b1 := hb
    replace h := h.2 hb
    refine s_iload_n (q := 5) 2 1 rfl rfl ?_
    refine s_iconst (q := 6) 3 rfl ?_
    refine s_icmp_lt (q := 9) (tgt := 15) 4 rfl rfl (fun hb => ?_) (fun hb => ?_)
    · skip
      have b6 := hb
      replace h := h.1 hb
      refine s_aload_n (q := 16) 9 0 rfl rfl ?_
      obtain ⟨c7, h⟩ := h
      refine n_getf (q := 19) (jj := 1) 10 11 1 rfl kX11_16 c7 ?_
      refine s_iload_n (q := 20) 11 1 rfl rfl ?_
      obtain ⟨c8, h⟩ := h
      obtain ⟨c9, h⟩ := h
      obtain ⟨c10, h⟩ := h
      refine n_aald (q := 21) 12 4 rfl c8 c9 c10 ?_
      refine s_aload_n (q := 22) 13 0 rfl rfl ?_
      refine n_getf (q := 25) (jj := 0) 14 11 0 rfl kX11_10 c7 ?_
      obtain ⟨c11, h⟩ := h
      refine PW.pick [0, 1] rfl ?_
      exact n_callV (N := mX1_copy) (as := [(2, F x0 0)]) (st := []) (q := 28) (d' := 1) 15 rfl uX1_copy kX11_323 rfl c11 h
    · skip
      have b6 := hb
      replace h := h.2 hb
      refine s_aload_n (q := 10) 5 0 rfl rfl ?_
      refine s_iconst (q := 11) 6 rfl ?_
      obtain ⟨c12, h⟩ := h
      refine n_callV (N := mX11_refuse) (as := [(0, (-1))]) (st := []) (q := 14) (d' := 0) 7 rfl uX11_refuse kX11_114 rfl c12 ?_
      show PW l G 0 mX11_refuse (0, 0) 0 [(0, (2, x0)), (1, (0, (-1)))] [] (n, K, F, E) _
      refine s_aload_n (q := 1) 0 0 rfl rfl ?_
      refine s_iload_n (q := 2) 1 1 rfl rfl ?_
      refine n_putf (q := 5) (jj := 16) 2 11 16 rfl kX11_97 c12 (Or.inl rfl) ?_
      refine PW.nameF (fun F3 eF3 => ?_)
      replace h := h F3 eF3
      refine s_iload_n (q := 6) 3 1 rfl rfl ?_
      refine s_bipush (q := 8) 4 rfl ?_
      refine s_icmp_lt (q := 11) (tgt := 18) 5 rfl rfl (fun hb => absurd hb (by decide)) (fun _ => ?_)
      refine s_iload_n (q := 12) 6 1 rfl rfl ?_
      refine n_ineg (q := 13) 7 rfl (by decide) ?_
      refine PW.top (b := 1) (by decide) ?_
      refine s_iconst (q := 14) 8 rfl ?_
      refine n_isub (q := 15) 9 rfl (by decide) ?_
      refine PW.top (b := 0) (by decide) ?_
      refine s_goto (tgt := 22) 10 rfl rfl ?_
      refine s_istore_n (q := 23) (lv' := [(2, (0, 0)), (0, (2, x0)), (1, (0, (-1)))]) 15 rfl rfl ?_
      refine s_iload_n (q := 24) 16 0 rfl rfl ?_
      refine s_if_lt (q := 27) (tgt := 42) 17 rfl rfl (fun hb => absurd hb (by decide)) (fun _ => ?_)
      refine s_iload_n (q := 28) 18 0 rfl rfl ?_
      refine s_iconst (q := 29) 19 rfl ?_
      refine s_icmp_ge (q := 32) (tgt := 42) 20 rfl rfl (fun hb => absurd hb (by decide)) (fun _ => ?_)
      refine s_aload_n (q := 33) 21 1 rfl rfl ?_
      refine n_getf (q := 36) (jj := 13) 22 11 13 rfl kX11_87 c12 ?_
      refine PW.top (b := F x0 13) (by exact (congrFun (congrFun eF3 _) _).trans (pUp_k (by decide))) ?_
      refine s_iload_n (q := 37) 23 0 rfl rfl ?_
      refine s_dup2 (q := 38) 24 rfl ?_
      obtain ⟨c13, h⟩ := h
      obtain ⟨c14, h⟩ := h
      refine n_iald (q := 39) 25 rfl c13 c14 ?_
      refine s_iconst (q := 40) 26 rfl ?_
      refine s_iadd (q := 41) 27 rfl ?_
      obtain ⟨c15, h⟩ := h
      refine n_iast (q := 42) 28 rfl c15 c13 c14 ?_
      refine PW.nameE (fun E4 eE4 => ?_)
      replace h := h E4 eE4
      refine s_iload_n (q := 43) 29 2 rfl rfl ?_
      refine s_iret 30 rfl rfl ?_
      show PW l G 2 mX11_image bg 14 [(0, (2, x0)), (1, (0, x1))] [(0, (-1))] (n, K, F3, E4) Q
      exact s_iret 8 rfl rfl h
theorem vX11_image_28 {l : Launch} {G : pG} {bg : Nat × Nat} {n : Nat} {K : Int → Nat × Nat} {F E : Int → Int → Int} {Q : Option pV → pM → Prop} (x0 x1 : Int) (h : (K x0).1 = 11 ∧ (0 : Int) ≤ F x0 2 ∧ (K (F x0 2)).1 = 23 ∧ ((0 : Int) ≤ x1 ∧ x1 < ((K (F x0 2)).2 : Int)) ∧ (∀ E1, E1 = pUp E (F x0 2) x1 1 → (∀ F2, F2 = pUp F x0 16 0 → Q (some (0, 0)) (n, K, F2, E1)))) : PW l G 2 mX11_image bg 28 [(0, (2, x0)), (1, (0, x1))] [] (n, K, F, E) Q := by
  refine s_aload_n (q := 29) 16 0 rfl rfl ?_
  obtain ⟨c1, h⟩ := h
  refine n_getf (q := 32) (jj := 2) 17 11 2 rfl kX11_20 c1 ?_
  refine s_iload_n (q := 33) 18 1 rfl rfl ?_
  refine s_iconst (q := 34) 19 rfl ?_
  obtain ⟨c2, h⟩ := h
  obtain ⟨c3, h⟩ := h
  obtain ⟨c4, h⟩ := h
  refine n_zast (q := 35) 20 rfl c2 c3 c4 (by decide) ?_
  refine PW.nameE (fun E1 eE1 => ?_)
  replace h := h E1 eE1
  refine s_aload_n (q := 36) 21 0 rfl rfl ?_
  refine s_iconst (q := 37) 22 rfl ?_
  refine n_callV (N := mX11_accept) (as := [(0, 0)]) (st := []) (q := 40) (d' := 0) 23 rfl uX11_accept kX11_157 rfl c1 ?_
  show PW l G 0 mX11_accept (0, 0) 0 [(0, (2, x0)), (1, (0, 0))] [] (n, K, F, E1) _
  refine s_aload_n (q := 1) 0 0 rfl rfl ?_
  refine s_iconst (q := 2) 1 rfl ?_
  refine n_putf (q := 5) (jj := 16) 2 11 16 rfl kX11_97 c1 (Or.inl rfl) ?_
  refine PW.nameF (fun F2 eF2 => ?_)
  replace h := h F2 eF2
  refine s_iload_n (q := 6) 3 1 rfl rfl ?_
  refine s_iret 4 rfl rfl ?_
  show PW l G 2 mX11_image bg 40 [(0, (2, x0)), (1, (0, x1))] [(0, 0)] (n, K, F2, E1) Q
  exact s_iret 24 rfl rfl h
theorem vX11_back_0 {l : Launch} {G : pG} {bg : Nat × Nat} {n : Nat} {K : Int → Nat × Nat} {F E : Int → Int → Int} {Q : Option pV → pM → Prop} (x0 x1 : Int) (h : ((x1 < 0 → (K x0).1 = 11 ∧ (∀ F1, F1 = pUp F x0 16 (-1) → (K (F x0 13)).1 = 20 ∧ ((0 : Int) ≤ 0 ∧ 0 < ((K (F x0 13)).2 : Int)) ∧ (0 : Int) ≤ F x0 13 ∧ (∀ E2, E2 = pUp E (F x0 13) 0 (w32 ((E (F x0 13) 0) + 1)) → Q (some (0, (-1))) (n, K, F1, E2)))) ∧ (¬ (x1 < 0) → ((x1 < 2 → (K x0).1 = 11 ∧ (0 : Int) ≤ F x0 2 ∧ (K (F x0 2)).1 = 23 ∧ ((0 : Int) ≤ x1 ∧ x1 < ((K (F x0 2)).2 : Int)) ∧ ((¬ (E (F x0 2) x1) = 0 → (0 : Int) ≤ F x0 1 ∧ (K (F x0 1)).1 = 24 ∧ ((0 : Int) ≤ x1 ∧ x1 < ((K (F x0 1)).2 : Int)) ∧ (K (F x0 0)).1 = 1 ∧ PC l G 1 mX1_copy (0, 0) [(2, F x0 0), (2, E (F x0 1) x1)] (n, K, F, E) (fun r μ => PW l G 2 mX11_back bg 44 [(0, (2, x0))] (r.toList ++ []) μ Q)) ∧ ((E (F x0 2) x1) = 0 → (∀ F3, F3 = pUp F x0 16 (-2) → (K (F x0 13)).1 = 20 ∧ ((0 : Int) ≤ 1 ∧ 1 < ((K (F x0 13)).2 : Int)) ∧ (0 : Int) ≤ F x0 13 ∧ (∀ E4, E4 = pUp E (F x0 13) 1 (w32 ((E (F x0 13) 1) + 1)) → Q (some (0, (-2))) (n, K, F3, E4)))))) ∧ (¬ (x1 < 2) → (K x0).1 = 11 ∧ (∀ F5, F5 = pUp F x0 16 (-1) → (K (F x0 13)).1 = 20 ∧ ((0 : Int) ≤ 0 ∧ 0 < ((K (F x0 13)).2 : Int)) ∧ (0 : Int) ≤ F x0 13 ∧ (∀ E6, E6 = pUp E (F x0 13) 0 (w32 ((E (F x0 13) 0) + 1)) → Q (some (0, (-1))) (n, K, F5, E6)))))))) : PW l G 2 mX11_back bg 0 [(0, (2, x0)), (1, (0, x1))] [] (n, K, F, E) Q := by
  refine s_iload_n (q := 1) 0 1 rfl rfl ?_
  refine s_if_lt (q := 4) (tgt := 9) 1 rfl rfl (fun hb => ?_) (fun hb => ?_)
  · skip
    have b1 := hb
    replace h := h.1 hb
    refine s_aload_n (q := 10) 5 0 rfl rfl ?_
    refine s_iconst (q := 11) 6 rfl ?_
    obtain ⟨c2, h⟩ := h
    refine n_callV (N := mX11_refuse) (as := [(0, (-1))]) (st := []) (q := 14) (d' := 0) 7 rfl uX11_refuse kX11_114 rfl c2 ?_
    show PW l G 0 mX11_refuse (0, 0) 0 [(0, (2, x0)), (1, (0, (-1)))] [] (n, K, F, E) _
    refine s_aload_n (q := 1) 0 0 rfl rfl ?_
    refine s_iload_n (q := 2) 1 1 rfl rfl ?_
    refine n_putf (q := 5) (jj := 16) 2 11 16 rfl kX11_97 c2 (Or.inl rfl) ?_
    refine PW.nameF (fun F1 eF1 => ?_)
    replace h := h F1 eF1
    refine s_iload_n (q := 6) 3 1 rfl rfl ?_
    refine s_bipush (q := 8) 4 rfl ?_
    refine s_icmp_lt (q := 11) (tgt := 18) 5 rfl rfl (fun hb => absurd hb (by decide)) (fun _ => ?_)
    refine s_iload_n (q := 12) 6 1 rfl rfl ?_
    refine n_ineg (q := 13) 7 rfl (by decide) ?_
    refine PW.top (b := 1) (by decide) ?_
    refine s_iconst (q := 14) 8 rfl ?_
    refine n_isub (q := 15) 9 rfl (by decide) ?_
    refine PW.top (b := 0) (by decide) ?_
    refine s_goto (tgt := 22) 10 rfl rfl ?_
    refine s_istore_n (q := 23) (lv' := [(2, (0, 0)), (0, (2, x0)), (1, (0, (-1)))]) 15 rfl rfl ?_
    refine s_iload_n (q := 24) 16 0 rfl rfl ?_
    refine s_if_lt (q := 27) (tgt := 42) 17 rfl rfl (fun hb => absurd hb (by decide)) (fun _ => ?_)
    refine s_iload_n (q := 28) 18 0 rfl rfl ?_
    refine s_iconst (q := 29) 19 rfl ?_
    refine s_icmp_ge (q := 32) (tgt := 42) 20 rfl rfl (fun hb => absurd hb (by decide)) (fun _ => ?_)
    refine s_aload_n (q := 33) 21 1 rfl rfl ?_
    refine n_getf (q := 36) (jj := 13) 22 11 13 rfl kX11_87 c2 ?_
    refine PW.top (b := F x0 13) (by exact (congrFun (congrFun eF1 _) _).trans (pUp_k (by decide))) ?_
    refine s_iload_n (q := 37) 23 0 rfl rfl ?_
    refine s_dup2 (q := 38) 24 rfl ?_
    obtain ⟨c3, h⟩ := h
    obtain ⟨c4, h⟩ := h
    refine n_iald (q := 39) 25 rfl c3 c4 ?_
    refine s_iconst (q := 40) 26 rfl ?_
    refine s_iadd (q := 41) 27 rfl ?_
    obtain ⟨c5, h⟩ := h
    refine n_iast (q := 42) 28 rfl c5 c3 c4 ?_
    refine PW.nameE (fun E2 eE2 => ?_)
    replace h := h E2 eE2
    refine s_iload_n (q := 43) 29 2 rfl rfl ?_
    refine s_iret 30 rfl rfl ?_
    show PW l G 2 mX11_back bg 14 [(0, (2, x0)), (1, (0, x1))] [(0, (-1))] (n, K, F1, E2) Q
    exact s_iret 8 rfl rfl h
  · skip
    have b1 := hb
    replace h := h.2 hb
    refine s_iload_n (q := 5) 2 1 rfl rfl ?_
    refine s_iconst (q := 6) 3 rfl ?_
    refine s_icmp_lt (q := 9) (tgt := 15) 4 rfl rfl (fun hb => ?_) (fun hb => ?_)
    · skip
      have b6 := hb
      replace h := h.1 hb
      refine s_aload_n (q := 16) 9 0 rfl rfl ?_
      obtain ⟨c7, h⟩ := h
      refine n_getf (q := 19) (jj := 2) 10 11 2 rfl kX11_20 c7 ?_
      refine s_iload_n (q := 20) 11 1 rfl rfl ?_
      obtain ⟨c8, h⟩ := h
      obtain ⟨c9, h⟩ := h
      obtain ⟨c10, h⟩ := h
      refine n_bald (q := 21) 12 3 rfl c8 c9 c10 ?_
      refine s_if_ne (q := 24) (tgt := 31) 13 rfl rfl (fun hb => ?_) (fun hb => ?_)
      · skip
        have b11 := hb
        replace h := h.1 hb
        refine s_aload_n (q := 32) 18 0 rfl rfl ?_
        refine n_getf (q := 35) (jj := 0) 19 11 0 rfl kX11_10 c7 ?_
        refine s_aload_n (q := 36) 20 0 rfl rfl ?_
        refine n_getf (q := 39) (jj := 1) 21 11 1 rfl kX11_16 c7 ?_
        refine s_iload_n (q := 40) 22 1 rfl rfl ?_
        obtain ⟨c12, h⟩ := h
        obtain ⟨c13, h⟩ := h
        obtain ⟨c14, h⟩ := h
        refine n_aald (q := 41) 23 4 rfl c12 c13 c14 ?_
        obtain ⟨c15, h⟩ := h
        refine PW.pick [0] rfl ?_
        exact n_callV (N := mX1_copy) (as := [(2, E (F x0 1) x1)]) (st := []) (q := 44) (d' := 1) 24 rfl uX1_copy kX11_323 rfl c15 h
      · have hb := Classical.not_not.mp hb
        have b11 := hb
        replace h := h.2 hb
        refine s_aload_n (q := 25) 14 0 rfl rfl ?_
        refine s_bipush (q := 27) 15 rfl ?_
        refine n_callV (N := mX11_refuse) (as := [(0, (-2))]) (st := []) (q := 30) (d' := 0) 16 rfl uX11_refuse kX11_114 rfl c7 ?_
        show PW l G 0 mX11_refuse (0, 0) 0 [(0, (2, x0)), (1, (0, (-2)))] [] (n, K, F, E) _
        refine s_aload_n (q := 1) 0 0 rfl rfl ?_
        refine s_iload_n (q := 2) 1 1 rfl rfl ?_
        refine n_putf (q := 5) (jj := 16) 2 11 16 rfl kX11_97 c7 (Or.inl rfl) ?_
        refine PW.nameF (fun F3 eF3 => ?_)
        replace h := h F3 eF3
        refine s_iload_n (q := 6) 3 1 rfl rfl ?_
        refine s_bipush (q := 8) 4 rfl ?_
        refine s_icmp_lt (q := 11) (tgt := 18) 5 rfl rfl (fun hb => absurd hb (by decide)) (fun _ => ?_)
        refine s_iload_n (q := 12) 6 1 rfl rfl ?_
        refine n_ineg (q := 13) 7 rfl (by decide) ?_
        refine PW.top (b := 2) (by decide) ?_
        refine s_iconst (q := 14) 8 rfl ?_
        refine n_isub (q := 15) 9 rfl (by decide) ?_
        refine PW.top (b := 1) (by decide) ?_
        refine s_goto (tgt := 22) 10 rfl rfl ?_
        refine s_istore_n (q := 23) (lv' := [(2, (0, 1)), (0, (2, x0)), (1, (0, (-2)))]) 15 rfl rfl ?_
        refine s_iload_n (q := 24) 16 0 rfl rfl ?_
        refine s_if_lt (q := 27) (tgt := 42) 17 rfl rfl (fun hb => absurd hb (by decide)) (fun _ => ?_)
        refine s_iload_n (q := 28) 18 0 rfl rfl ?_
        refine s_iconst (q := 29) 19 rfl ?_
        refine s_icmp_ge (q := 32) (tgt := 42) 20 rfl rfl (fun hb => absurd hb (by decide)) (fun _ => ?_)
        refine s_aload_n (q := 33) 21 1 rfl rfl ?_
        refine n_getf (q := 36) (jj := 13) 22 11 13 rfl kX11_87 c7 ?_
        refine PW.top (b := F x0 13) (by exact (congrFun (congrFun eF3 _) _).trans (pUp_k (by decide))) ?_
        refine s_iload_n (q := 37) 23 0 rfl rfl ?_
        refine s_dup2 (q := 38) 24 rfl ?_
        obtain ⟨c16, h⟩ := h
        obtain ⟨c17, h⟩ := h
        refine n_iald (q := 39) 25 rfl c16 c17 ?_
        refine s_iconst (q := 40) 26 rfl ?_
        refine s_iadd (q := 41) 27 rfl ?_
        obtain ⟨c18, h⟩ := h
        refine n_iast (q := 42) 28 rfl c18 c16 c17 ?_
        refine PW.nameE (fun E4 eE4 => ?_)
        replace h := h E4 eE4
        refine s_iload_n (q := 43) 29 2 rfl rfl ?_
        refine s_iret 30 rfl rfl ?_
        show PW l G 2 mX11_back bg 30 [(0, (2, x0)), (1, (0, x1))] [(0, (-2))] (n, K, F3, E4) Q
        exact s_iret 17 rfl rfl h
    · skip
      have b6 := hb
      replace h := h.2 hb
      refine s_aload_n (q := 10) 5 0 rfl rfl ?_
      refine s_iconst (q := 11) 6 rfl ?_
      obtain ⟨c19, h⟩ := h
      refine n_callV (N := mX11_refuse) (as := [(0, (-1))]) (st := []) (q := 14) (d' := 0) 7 rfl uX11_refuse kX11_114 rfl c19 ?_
      show PW l G 0 mX11_refuse (0, 0) 0 [(0, (2, x0)), (1, (0, (-1)))] [] (n, K, F, E) _
      refine s_aload_n (q := 1) 0 0 rfl rfl ?_
      refine s_iload_n (q := 2) 1 1 rfl rfl ?_
      refine n_putf (q := 5) (jj := 16) 2 11 16 rfl kX11_97 c19 (Or.inl rfl) ?_
      refine PW.nameF (fun F5 eF5 => ?_)
      replace h := h F5 eF5
      refine s_iload_n (q := 6) 3 1 rfl rfl ?_
      refine s_bipush (q := 8) 4 rfl ?_
      refine s_icmp_lt (q := 11) (tgt := 18) 5 rfl rfl (fun hb => absurd hb (by decide)) (fun _ => ?_)
      refine s_iload_n (q := 12) 6 1 rfl rfl ?_
      refine n_ineg (q := 13) 7 rfl (by decide) ?_
      refine PW.top (b := 1) (by decide) ?_
      refine s_iconst (q := 14) 8 rfl ?_
      refine n_isub (q := 15) 9 rfl (by decide) ?_
      refine PW.top (b := 0) (by decide) ?_
      refine s_goto (tgt := 22) 10 rfl rfl ?_
      refine s_istore_n (q := 23) (lv' := [(2, (0, 0)), (0, (2, x0)), (1, (0, (-1)))]) 15 rfl rfl ?_
      refine s_iload_n (q := 24) 16 0 rfl rfl ?_
      refine s_if_lt (q := 27) (tgt := 42) 17 rfl rfl (fun hb => absurd hb (by decide)) (fun _ => ?_)
      refine s_iload_n (q := 28) 18 0 rfl rfl ?_
      refine s_iconst (q := 29) 19 rfl ?_
      refine s_icmp_ge (q := 32) (tgt := 42) 20 rfl rfl (fun hb => absurd hb (by decide)) (fun _ => ?_)
      refine s_aload_n (q := 33) 21 1 rfl rfl ?_
      refine n_getf (q := 36) (jj := 13) 22 11 13 rfl kX11_87 c19 ?_
      refine PW.top (b := F x0 13) (by exact (congrFun (congrFun eF5 _) _).trans (pUp_k (by decide))) ?_
      refine s_iload_n (q := 37) 23 0 rfl rfl ?_
      refine s_dup2 (q := 38) 24 rfl ?_
      obtain ⟨c20, h⟩ := h
      obtain ⟨c21, h⟩ := h
      refine n_iald (q := 39) 25 rfl c20 c21 ?_
      refine s_iconst (q := 40) 26 rfl ?_
      refine s_iadd (q := 41) 27 rfl ?_
      obtain ⟨c22, h⟩ := h
      refine n_iast (q := 42) 28 rfl c22 c20 c21 ?_
      refine PW.nameE (fun E6 eE6 => ?_)
      replace h := h E6 eE6
      refine s_iload_n (q := 43) 29 2 rfl rfl ?_
      refine s_iret 30 rfl rfl ?_
      show PW l G 2 mX11_back bg 14 [(0, (2, x0)), (1, (0, x1))] [(0, (-1))] (n, K, F5, E6) Q
      exact s_iret 8 rfl rfl h
theorem vX11_back_44 {l : Launch} {G : pG} {bg : Nat × Nat} {n : Nat} {K : Int → Nat × Nat} {F E : Int → Int → Int} {Q : Option pV → pM → Prop} (x0 : Int) (h : (K x0).1 = 11 ∧ (K (F x0 3)).1 = 3 ∧ (∀ F1, F1 = pUp F (F x0 3) 3 0 → (∀ F2, F2 = pUp F1 x0 16 0 → Q (some (0, 0)) (n, K, F2, E)))) : PW l G 2 mX11_back bg 44 [(0, (2, x0))] [] (n, K, F, E) Q := by
  refine s_aload_n (q := 45) 25 0 rfl rfl ?_
  obtain ⟨c1, h⟩ := h
  refine n_getf (q := 48) (jj := 3) 26 11 3 rfl kX11_27 c1 ?_
  refine s_iconst (q := 49) 27 rfl ?_
  obtain ⟨c2, h⟩ := h
  refine n_putf (q := 52) (jj := 3) 28 3 3 rfl kX11_176 c2 (Or.inl rfl) ?_
  refine PW.nameF (fun F1 eF1 => ?_)
  replace h := h F1 eF1
  refine s_aload_n (q := 53) 29 0 rfl rfl ?_
  refine s_iconst (q := 54) 30 rfl ?_
  refine n_callV (N := mX11_accept) (as := [(0, 0)]) (st := []) (q := 57) (d' := 0) 31 rfl uX11_accept kX11_157 rfl c1 ?_
  show PW l G 0 mX11_accept (0, 0) 0 [(0, (2, x0)), (1, (0, 0))] [] (n, K, F1, E) _
  refine s_aload_n (q := 1) 0 0 rfl rfl ?_
  refine s_iconst (q := 2) 1 rfl ?_
  refine n_putf (q := 5) (jj := 16) 2 11 16 rfl kX11_97 c1 (Or.inl rfl) ?_
  refine PW.nameF (fun F2 eF2 => ?_)
  replace h := h F2 eF2
  refine s_iload_n (q := 6) 3 1 rfl rfl ?_
  refine s_iret 4 rfl rfl ?_
  show PW l G 2 mX11_back bg 57 [(0, (2, x0))] [(0, 0)] (n, K, F2, E) Q
  exact s_iret 32 rfl rfl h
theorem vX11_count_0 {l : Launch} {G : pG} {bg : Nat × Nat} {n : Nat} {K : Int → Nat × Nat} {F E : Int → Int → Int} {Q : Option pV → pM → Prop} (x0 x1 : Int) (h : (((x1 < 0 ∨ 17 < x1) → PW l G 1 mX11_count bg 177 [(0, (2, x0)), (1, (0, x1))] [] (n, K, F, E) Q) ∧ (x1 = 0 → PW l G 1 mX11_count bg 88 [(0, (2, x0))] [] (n, K, F, E) Q) ∧ (x1 = 1 → PW l G 1 mX11_count bg 99 [(0, (2, x0))] [] (n, K, F, E) Q) ∧ (x1 = 2 → PW l G 1 mX11_count bg 110 [(0, (2, x0))] [] (n, K, F, E) Q) ∧ (x1 = 3 → PW l G 1 mX11_count bg 121 [(0, (2, x0))] [] (n, K, F, E) Q) ∧ (x1 = 4 → PW l G 1 mX11_count bg 129 [(0, (2, x0))] [] (n, K, F, E) Q) ∧ (x1 = 5 → PW l G 1 mX11_count bg 137 [(0, (2, x0))] [] (n, K, F, E) Q) ∧ (x1 = 6 → PW l G 1 mX11_count bg 145 [(0, (2, x0))] [] (n, K, F, E) Q) ∧ (x1 = 7 → PW l G 1 mX11_count bg 177 [(0, (2, x0)), (1, (0, x1))] [] (n, K, F, E) Q) ∧ (x1 = 8 → PW l G 1 mX11_count bg 177 [(0, (2, x0)), (1, (0, x1))] [] (n, K, F, E) Q) ∧ (x1 = 9 → PW l G 1 mX11_count bg 177 [(0, (2, x0)), (1, (0, x1))] [] (n, K, F, E) Q) ∧ (x1 = 10 → PW l G 1 mX11_count bg 177 [(0, (2, x0)), (1, (0, x1))] [] (n, K, F, E) Q) ∧ (x1 = 11 → PW l G 1 mX11_count bg 177 [(0, (2, x0)), (1, (0, x1))] [] (n, K, F, E) Q) ∧ (x1 = 12 → PW l G 1 mX11_count bg 153 [(0, (2, x0))] [] (n, K, F, E) Q) ∧ (x1 = 13 → PW l G 1 mX11_count bg 177 [(0, (2, x0)), (1, (0, x1))] [] (n, K, F, E) Q) ∧ (x1 = 14 → PW l G 1 mX11_count bg 177 [(0, (2, x0)), (1, (0, x1))] [] (n, K, F, E) Q) ∧ (x1 = 15 → PW l G 1 mX11_count bg 177 [(0, (2, x0)), (1, (0, x1))] [] (n, K, F, E) Q) ∧ (x1 = 16 → PW l G 1 mX11_count bg 161 [(0, (2, x0))] [] (n, K, F, E) Q) ∧ (x1 = 17 → PW l G 1 mX11_count bg 169 [(0, (2, x0))] [] (n, K, F, E) Q))) : PW l G 1 mX11_count bg 0 [(0, (2, x0)), (1, (0, x1))] [] (n, K, F, E) Q := by
  refine s_iload_n (q := 1) 0 1 rfl rfl ?_
  obtain ⟨h0, h⟩ := h
  by_cases hsw : x1 < 0 ∨ 17 < x1
  · refine s_tableOut (tgt := 177) 1 rfl hsw rfl ?_
    replace h := h0 hsw
    refine PW.pick [0, 1] rfl ?_
    exact h
  have gl : 0 ≤ x1 := by omega
  have gh : x1 ≤ 17 := by omega
  clear hsw
  obtain ⟨h0, h⟩ := h
  by_cases hs0 : x1 = 0
  · refine s_tableIn (tgt := 88) (off := 87) 1 rfl ⟨by rw [hs0]; decide, by rw [hs0]; decide⟩ (by rw [hs0]; rfl) rfl ?_
    replace h := h0 hs0
    refine PW.pick [0] rfl ?_
    exact h
  clear h0
  replace gl : 1 ≤ x1 := by clear h; omega
  clear hs0
  obtain ⟨h0, h⟩ := h
  by_cases hs0 : x1 = 1
  · refine s_tableIn (tgt := 99) (off := 98) 1 rfl ⟨by rw [hs0]; decide, by rw [hs0]; decide⟩ (by rw [hs0]; rfl) rfl ?_
    replace h := h0 hs0
    refine PW.pick [0] rfl ?_
    exact h
  clear h0
  replace gl : 2 ≤ x1 := by clear h; omega
  clear hs0
  obtain ⟨h0, h⟩ := h
  by_cases hs0 : x1 = 2
  · refine s_tableIn (tgt := 110) (off := 109) 1 rfl ⟨by rw [hs0]; decide, by rw [hs0]; decide⟩ (by rw [hs0]; rfl) rfl ?_
    replace h := h0 hs0
    refine PW.pick [0] rfl ?_
    exact h
  clear h0
  replace gl : 3 ≤ x1 := by clear h; omega
  clear hs0
  obtain ⟨h0, h⟩ := h
  by_cases hs0 : x1 = 3
  · refine s_tableIn (tgt := 121) (off := 120) 1 rfl ⟨by rw [hs0]; decide, by rw [hs0]; decide⟩ (by rw [hs0]; rfl) rfl ?_
    replace h := h0 hs0
    refine PW.pick [0] rfl ?_
    exact h
  clear h0
  replace gl : 4 ≤ x1 := by clear h; omega
  clear hs0
  obtain ⟨h0, h⟩ := h
  by_cases hs0 : x1 = 4
  · refine s_tableIn (tgt := 129) (off := 128) 1 rfl ⟨by rw [hs0]; decide, by rw [hs0]; decide⟩ (by rw [hs0]; rfl) rfl ?_
    replace h := h0 hs0
    refine PW.pick [0] rfl ?_
    exact h
  clear h0
  replace gl : 5 ≤ x1 := by clear h; omega
  clear hs0
  obtain ⟨h0, h⟩ := h
  by_cases hs0 : x1 = 5
  · refine s_tableIn (tgt := 137) (off := 136) 1 rfl ⟨by rw [hs0]; decide, by rw [hs0]; decide⟩ (by rw [hs0]; rfl) rfl ?_
    replace h := h0 hs0
    refine PW.pick [0] rfl ?_
    exact h
  clear h0
  replace gl : 6 ≤ x1 := by clear h; omega
  clear hs0
  obtain ⟨h0, h⟩ := h
  by_cases hs0 : x1 = 6
  · refine s_tableIn (tgt := 145) (off := 144) 1 rfl ⟨by rw [hs0]; decide, by rw [hs0]; decide⟩ (by rw [hs0]; rfl) rfl ?_
    replace h := h0 hs0
    refine PW.pick [0] rfl ?_
    exact h
  clear h0
  replace gl : 7 ≤ x1 := by clear h; omega
  clear hs0
  obtain ⟨h0, h⟩ := h
  by_cases hs0 : x1 = 7
  · refine s_tableIn (tgt := 177) (off := 176) 1 rfl ⟨by rw [hs0]; decide, by rw [hs0]; decide⟩ (by rw [hs0]; rfl) rfl ?_
    replace h := h0 hs0
    refine PW.pick [0, 1] rfl ?_
    exact h
  clear h0
  replace gl : 8 ≤ x1 := by clear h; omega
  clear hs0
  obtain ⟨h0, h⟩ := h
  by_cases hs0 : x1 = 8
  · refine s_tableIn (tgt := 177) (off := 176) 1 rfl ⟨by rw [hs0]; decide, by rw [hs0]; decide⟩ (by rw [hs0]; rfl) rfl ?_
    replace h := h0 hs0
    refine PW.pick [0, 1] rfl ?_
    exact h
  clear h0
  replace gl : 9 ≤ x1 := by clear h; omega
  clear hs0
  obtain ⟨h0, h⟩ := h
  by_cases hs0 : x1 = 9
  · refine s_tableIn (tgt := 177) (off := 176) 1 rfl ⟨by rw [hs0]; decide, by rw [hs0]; decide⟩ (by rw [hs0]; rfl) rfl ?_
    replace h := h0 hs0
    refine PW.pick [0, 1] rfl ?_
    exact h
  clear h0
  replace gl : 10 ≤ x1 := by clear h; omega
  clear hs0
  obtain ⟨h0, h⟩ := h
  by_cases hs0 : x1 = 10
  · refine s_tableIn (tgt := 177) (off := 176) 1 rfl ⟨by rw [hs0]; decide, by rw [hs0]; decide⟩ (by rw [hs0]; rfl) rfl ?_
    replace h := h0 hs0
    refine PW.pick [0, 1] rfl ?_
    exact h
  clear h0
  replace gl : 11 ≤ x1 := by clear h; omega
  clear hs0
  obtain ⟨h0, h⟩ := h
  by_cases hs0 : x1 = 11
  · refine s_tableIn (tgt := 177) (off := 176) 1 rfl ⟨by rw [hs0]; decide, by rw [hs0]; decide⟩ (by rw [hs0]; rfl) rfl ?_
    replace h := h0 hs0
    refine PW.pick [0, 1] rfl ?_
    exact h
  clear h0
  replace gl : 12 ≤ x1 := by clear h; omega
  clear hs0
  obtain ⟨h0, h⟩ := h
  by_cases hs0 : x1 = 12
  · refine s_tableIn (tgt := 153) (off := 152) 1 rfl ⟨by rw [hs0]; decide, by rw [hs0]; decide⟩ (by rw [hs0]; rfl) rfl ?_
    replace h := h0 hs0
    refine PW.pick [0] rfl ?_
    exact h
  clear h0
  replace gl : 13 ≤ x1 := by clear h; omega
  clear hs0
  obtain ⟨h0, h⟩ := h
  by_cases hs0 : x1 = 13
  · refine s_tableIn (tgt := 177) (off := 176) 1 rfl ⟨by rw [hs0]; decide, by rw [hs0]; decide⟩ (by rw [hs0]; rfl) rfl ?_
    replace h := h0 hs0
    refine PW.pick [0, 1] rfl ?_
    exact h
  clear h0
  replace gl : 14 ≤ x1 := by clear h; omega
  clear hs0
  obtain ⟨h0, h⟩ := h
  by_cases hs0 : x1 = 14
  · refine s_tableIn (tgt := 177) (off := 176) 1 rfl ⟨by rw [hs0]; decide, by rw [hs0]; decide⟩ (by rw [hs0]; rfl) rfl ?_
    replace h := h0 hs0
    refine PW.pick [0, 1] rfl ?_
    exact h
  clear h0
  replace gl : 15 ≤ x1 := by clear h; omega
  clear hs0
  obtain ⟨h0, h⟩ := h
  by_cases hs0 : x1 = 15
  · refine s_tableIn (tgt := 177) (off := 176) 1 rfl ⟨by rw [hs0]; decide, by rw [hs0]; decide⟩ (by rw [hs0]; rfl) rfl ?_
    replace h := h0 hs0
    refine PW.pick [0, 1] rfl ?_
    exact h
  clear h0
  replace gl : 16 ≤ x1 := by clear h; omega
  clear hs0
  obtain ⟨h0, h⟩ := h
  by_cases hs0 : x1 = 16
  · refine s_tableIn (tgt := 161) (off := 160) 1 rfl ⟨by rw [hs0]; decide, by rw [hs0]; decide⟩ (by rw [hs0]; rfl) rfl ?_
    replace h := h0 hs0
    refine PW.pick [0] rfl ?_
    exact h
  clear h0
  replace gl : 17 ≤ x1 := by clear h; omega
  clear hs0
  have h0 := h
  by_cases hs0 : x1 = 17
  · refine s_tableIn (tgt := 169) (off := 168) 1 rfl ⟨by rw [hs0]; decide, by rw [hs0]; decide⟩ (by rw [hs0]; rfl) rfl ?_
    replace h := h0 hs0
    refine PW.pick [0] rfl ?_
    exact h
  clear h0
  replace gl : 18 ≤ x1 := by clear h; omega
  clear hs0
  clear h
  exfalso
  omega
theorem vX11_count_88 {l : Launch} {G : pG} {bg : Nat × Nat} {n : Nat} {K : Int → Nat × Nat} {F E : Int → Int → Int} {Q : Option pV → pM → Prop} (x0 : Int) (h : (K x0).1 = 11 ∧ (K (F x0 0)).1 = 1 ∧ (K (F (F x0 0) 0)).1 = 0 ∧ (K (F (F (F x0 0) 0) 0)).1 = 20 ∧ ((0 : Int) ≤ 0 ∧ 0 < ((K (F (F (F x0 0) 0) 0)).2 : Int)) ∧ Q (some (0, E (F (F (F x0 0) 0) 0) 0)) (n, K, F, E)) : PW l G 1 mX11_count bg 88 [(0, (2, x0))] [] (n, K, F, E) Q := by
  refine s_aload_n (q := 89) 2 0 rfl rfl ?_
  obtain ⟨c1, h⟩ := h
  refine n_getf (q := 92) (jj := 0) 3 11 0 rfl kX11_10 c1 ?_
  obtain ⟨c2, h⟩ := h
  refine n_getf (q := 95) (jj := 0) 4 1 0 rfl kX11_125 c2 ?_
  obtain ⟨c3, h⟩ := h
  refine n_callV (N := mX0_operators) (as := []) (st := []) (q := 98) (d' := 0) 5 rfl uX0_operators kX11_279 rfl c3 ?_
  show PW l G 0 mX0_operators (0, 0) 0 [(0, (2, F (F x0 0) 0))] [] (n, K, F, E) _
  refine s_aload_n (q := 1) 0 0 rfl rfl ?_
  refine n_getf (q := 4) (jj := 0) 1 0 0 rfl kX0_11 c3 ?_
  refine s_iconst (q := 5) 2 rfl ?_
  obtain ⟨c4, h⟩ := h
  obtain ⟨c5, h⟩ := h
  refine n_iald (q := 6) 3 rfl c4 c5 ?_
  refine s_iret 4 rfl rfl ?_
  show PW l G 1 mX11_count bg 98 [(0, (2, x0))] [(0, E (F (F (F x0 0) 0) 0) 0)] (n, K, F, E) Q
  exact s_iret 6 rfl rfl h
theorem vX11_count_99 {l : Launch} {G : pG} {bg : Nat × Nat} {n : Nat} {K : Int → Nat × Nat} {F E : Int → Int → Int} {Q : Option pV → pM → Prop} (x0 : Int) (h : (K x0).1 = 11 ∧ (K (F x0 0)).1 = 1 ∧ (K (F (F x0 0) 0)).1 = 0 ∧ (K (F (F (F x0 0) 0) 0)).1 = 20 ∧ ((0 : Int) ≤ 1 ∧ 1 < ((K (F (F (F x0 0) 0) 0)).2 : Int)) ∧ Q (some (0, E (F (F (F x0 0) 0) 0) 1)) (n, K, F, E)) : PW l G 1 mX11_count bg 99 [(0, (2, x0))] [] (n, K, F, E) Q := by
  refine s_aload_n (q := 100) 7 0 rfl rfl ?_
  obtain ⟨c1, h⟩ := h
  refine n_getf (q := 103) (jj := 0) 8 11 0 rfl kX11_10 c1 ?_
  obtain ⟨c2, h⟩ := h
  refine n_getf (q := 106) (jj := 0) 9 1 0 rfl kX11_125 c2 ?_
  obtain ⟨c3, h⟩ := h
  refine n_callV (N := mX0_latestStamp) (as := []) (st := []) (q := 109) (d' := 0) 10 rfl uX0_latestStamp kX11_326 rfl c3 ?_
  show PW l G 0 mX0_latestStamp (0, 0) 0 [(0, (2, F (F x0 0) 0))] [] (n, K, F, E) _
  refine s_aload_n (q := 1) 0 0 rfl rfl ?_
  refine n_getf (q := 4) (jj := 0) 1 0 0 rfl kX0_11 c3 ?_
  refine s_iconst (q := 5) 2 rfl ?_
  obtain ⟨c4, h⟩ := h
  obtain ⟨c5, h⟩ := h
  refine n_iald (q := 6) 3 rfl c4 c5 ?_
  refine s_iret 4 rfl rfl ?_
  show PW l G 1 mX11_count bg 109 [(0, (2, x0))] [(0, E (F (F (F x0 0) 0) 0) 1)] (n, K, F, E) Q
  exact s_iret 11 rfl rfl h
theorem vX11_count_110 {l : Launch} {G : pG} {bg : Nat × Nat} {n : Nat} {K : Int → Nat × Nat} {F E : Int → Int → Int} {Q : Option pV → pM → Prop} (x0 : Int) (h : (K x0).1 = 11 ∧ (K (F x0 0)).1 = 1 ∧ (K (F (F x0 0) 0)).1 = 0 ∧ (K (F (F (F x0 0) 0) 0)).1 = 20 ∧ ((0 : Int) ≤ 2 ∧ 2 < ((K (F (F (F x0 0) 0) 0)).2 : Int)) ∧ Q (some (0, E (F (F (F x0 0) 0) 0) 2)) (n, K, F, E)) : PW l G 1 mX11_count bg 110 [(0, (2, x0))] [] (n, K, F, E) Q := by
  refine s_aload_n (q := 111) 12 0 rfl rfl ?_
  obtain ⟨c1, h⟩ := h
  refine n_getf (q := 114) (jj := 0) 13 11 0 rfl kX11_10 c1 ?_
  obtain ⟨c2, h⟩ := h
  refine n_getf (q := 117) (jj := 0) 14 1 0 rfl kX11_125 c2 ?_
  obtain ⟨c3, h⟩ := h
  refine n_callV (N := mX0_resultsEver) (as := []) (st := []) (q := 120) (d' := 0) 15 rfl uX0_resultsEver kX11_320 rfl c3 ?_
  show PW l G 0 mX0_resultsEver (0, 0) 0 [(0, (2, F (F x0 0) 0))] [] (n, K, F, E) _
  refine s_aload_n (q := 1) 0 0 rfl rfl ?_
  refine n_getf (q := 4) (jj := 0) 1 0 0 rfl kX0_11 c3 ?_
  refine s_iconst (q := 5) 2 rfl ?_
  obtain ⟨c4, h⟩ := h
  obtain ⟨c5, h⟩ := h
  refine n_iald (q := 6) 3 rfl c4 c5 ?_
  refine s_iret 4 rfl rfl ?_
  show PW l G 1 mX11_count bg 120 [(0, (2, x0))] [(0, E (F (F (F x0 0) 0) 0) 2)] (n, K, F, E) Q
  exact s_iret 16 rfl rfl h
theorem vX11_count_121 {l : Launch} {G : pG} {bg : Nat × Nat} {n : Nat} {K : Int → Nat × Nat} {F E : Int → Int → Int} {Q : Option pV → pM → Prop} (x0 : Int) (h : (K x0).1 = 11 ∧ (K (F x0 0)).1 = 1 ∧ Q (some (0, F (F x0 0) 4)) (n, K, F, E)) : PW l G 1 mX11_count bg 121 [(0, (2, x0))] [] (n, K, F, E) Q := by
  refine s_aload_n (q := 122) 17 0 rfl rfl ?_
  obtain ⟨c1, h⟩ := h
  refine n_getf (q := 125) (jj := 0) 18 11 0 rfl kX11_10 c1 ?_
  obtain ⟨c2, h⟩ := h
  refine n_getf (q := 128) (jj := 4) 19 1 4 rfl kX11_291 c2 ?_
  exact s_iret 20 rfl rfl h
theorem vX11_count_129 {l : Launch} {G : pG} {bg : Nat × Nat} {n : Nat} {K : Int → Nat × Nat} {F E : Int → Int → Int} {Q : Option pV → pM → Prop} (x0 : Int) (h : (K x0).1 = 11 ∧ (K (F x0 0)).1 = 1 ∧ Q (some (0, F (F x0 0) 6)) (n, K, F, E)) : PW l G 1 mX11_count bg 129 [(0, (2, x0))] [] (n, K, F, E) Q := by
  refine s_aload_n (q := 130) 21 0 rfl rfl ?_
  obtain ⟨c1, h⟩ := h
  refine n_getf (q := 133) (jj := 0) 22 11 0 rfl kX11_10 c1 ?_
  obtain ⟨c2, h⟩ := h
  refine n_getf (q := 136) (jj := 6) 23 1 6 rfl kX11_179 c2 ?_
  exact s_iret 24 rfl rfl h
theorem vX11_count_137 {l : Launch} {G : pG} {bg : Nat × Nat} {n : Nat} {K : Int → Nat × Nat} {F E : Int → Int → Int} {Q : Option pV → pM → Prop} (x0 : Int) (h : (K x0).1 = 11 ∧ (K (F x0 3)).1 = 3 ∧ Q (some (0, F (F x0 3) 3)) (n, K, F, E)) : PW l G 1 mX11_count bg 137 [(0, (2, x0))] [] (n, K, F, E) Q := by
  refine s_aload_n (q := 138) 25 0 rfl rfl ?_
  obtain ⟨c1, h⟩ := h
  refine n_getf (q := 141) (jj := 3) 26 11 3 rfl kX11_27 c1 ?_
  obtain ⟨c2, h⟩ := h
  refine n_getf (q := 144) (jj := 3) 27 3 3 rfl kX11_176 c2 ?_
  exact s_iret 28 rfl rfl h
theorem vX11_count_145 {l : Launch} {G : pG} {bg : Nat × Nat} {n : Nat} {K : Int → Nat × Nat} {F E : Int → Int → Int} {Q : Option pV → pM → Prop} (x0 : Int) (h : (K x0).1 = 11 ∧ (K (F x0 9)).1 = 8 ∧ Q (some (0, F (F x0 9) 1)) (n, K, F, E)) : PW l G 1 mX11_count bg 145 [(0, (2, x0))] [] (n, K, F, E) Q := by
  refine s_aload_n (q := 146) 29 0 rfl rfl ?_
  obtain ⟨c1, h⟩ := h
  refine n_getf (q := 149) (jj := 9) 30 11 9 rfl kX11_65 c1 ?_
  obtain ⟨c2, h⟩ := h
  refine n_getf (q := 152) (jj := 1) 31 8 1 rfl kX11_160 c2 ?_
  exact s_iret 32 rfl rfl h
theorem vX11_count_153 {l : Launch} {G : pG} {bg : Nat × Nat} {n : Nat} {K : Int → Nat × Nat} {F E : Int → Int → Int} {Q : Option pV → pM → Prop} (x0 : Int) (h : (K x0).1 = 11 ∧ (K (F x0 0)).1 = 1 ∧ Q (some (0, F (F x0 0) 7)) (n, K, F, E)) : PW l G 1 mX11_count bg 153 [(0, (2, x0))] [] (n, K, F, E) Q := by
  refine s_aload_n (q := 154) 33 0 rfl rfl ?_
  obtain ⟨c1, h⟩ := h
  refine n_getf (q := 157) (jj := 0) 34 11 0 rfl kX11_10 c1 ?_
  obtain ⟨c2, h⟩ := h
  refine n_getf (q := 160) (jj := 7) 35 1 7 rfl kX11_225 c2 ?_
  exact s_iret 36 rfl rfl h
theorem vX11_count_161 {l : Launch} {G : pG} {bg : Nat × Nat} {n : Nat} {K : Int → Nat × Nat} {F E : Int → Int → Int} {Q : Option pV → pM → Prop} (x0 : Int) (h : (K x0).1 = 11 ∧ (K (F x0 11)).1 = 2 ∧ Q (some (0, F (F x0 11) 1)) (n, K, F, E)) : PW l G 1 mX11_count bg 161 [(0, (2, x0))] [] (n, K, F, E) Q := by
  refine s_aload_n (q := 162) 37 0 rfl rfl ?_
  obtain ⟨c1, h⟩ := h
  refine n_getf (q := 165) (jj := 11) 38 11 11 rfl kX11_76 c1 ?_
  obtain ⟨c2, h⟩ := h
  refine n_getf (q := 168) (jj := 1) 39 2 1 rfl kX11_251 c2 ?_
  exact s_iret 40 rfl rfl h
theorem vX11_count_169 {l : Launch} {G : pG} {bg : Nat × Nat} {n : Nat} {K : Int → Nat × Nat} {F E : Int → Int → Int} {Q : Option pV → pM → Prop} (x0 : Int) (h : (K x0).1 = 11 ∧ (K (F x0 11)).1 = 2 ∧ Q (some (0, F (F x0 11) 3)) (n, K, F, E)) : PW l G 1 mX11_count bg 169 [(0, (2, x0))] [] (n, K, F, E) Q := by
  refine s_aload_n (q := 170) 41 0 rfl rfl ?_
  obtain ⟨c1, h⟩ := h
  refine n_getf (q := 173) (jj := 11) 42 11 11 rfl kX11_76 c1 ?_
  obtain ⟨c2, h⟩ := h
  refine n_getf (q := 176) (jj := 3) 43 2 3 rfl kX11_257 c2 ?_
  exact s_iret 44 rfl rfl h
theorem vX11_count_177 {l : Launch} {G : pG} {bg : Nat × Nat} {n : Nat} {K : Int → Nat × Nat} {F E : Int → Int → Int} {Q : Option pV → pM → Prop} (x0 x1 : Int) (h : ((x1 < 7 → ((x1 < 13 → Q (some (0, (-1))) (n, K, F, E)) ∧ (¬ (x1 < 13) → ((16 ≤ x1 → Q (some (0, (-1))) (n, K, F, E)) ∧ (¬ (16 ≤ x1) → (K x0).1 = 11 ∧ (K (F x0 0)).1 = 1 ∧ (-2147483648 ≤ x1 - 13 ∧ x1 - 13 < 2147483648) ∧ (K (F (F x0 0) 1)).1 = 20 ∧ ((0 : Int) ≤ x1 - 13 ∧ x1 - 13 < ((K (F (F x0 0) 1)).2 : Int)) ∧ Q (some (0, E (F (F x0 0) 1) (x1 - 13))) (n, K, F, E)))))) ∧ (¬ (x1 < 7) → ((12 ≤ x1 → ((x1 < 13 → Q (some (0, (-1))) (n, K, F, E)) ∧ (¬ (x1 < 13) → ((16 ≤ x1 → Q (some (0, (-1))) (n, K, F, E)) ∧ (¬ (16 ≤ x1) → (K x0).1 = 11 ∧ (K (F x0 0)).1 = 1 ∧ (-2147483648 ≤ x1 - 13 ∧ x1 - 13 < 2147483648) ∧ (K (F (F x0 0) 1)).1 = 20 ∧ ((0 : Int) ≤ x1 - 13 ∧ x1 - 13 < ((K (F (F x0 0) 1)).2 : Int)) ∧ Q (some (0, E (F (F x0 0) 1) (x1 - 13))) (n, K, F, E)))))) ∧ (¬ (12 ≤ x1) → (K x0).1 = 11 ∧ (-2147483648 ≤ x1 - 7 ∧ x1 - 7 < 2147483648) ∧ (K (F x0 13)).1 = 20 ∧ ((0 : Int) ≤ x1 - 7 ∧ x1 - 7 < ((K (F x0 13)).2 : Int)) ∧ Q (some (0, E (F x0 13) (x1 - 7))) (n, K, F, E)))))) : PW l G 1 mX11_count bg 177 [(0, (2, x0)), (1, (0, x1))] [] (n, K, F, E) Q := by
  refine s_iload_n (q := 178) 45 1 rfl rfl ?_
  refine s_bipush (q := 180) 46 rfl ?_
  refine s_icmp_lt (q := 183) (tgt := 199) 47 rfl rfl (fun hb => ?_) (fun hb => ?_)
  · skip
    have b1 := hb
    replace h := h.1 hb
    refine s_iload_n (q := 200) 58 1 rfl rfl ?_
    refine s_bipush (q := 202) 59 rfl ?_
    refine s_icmp_lt (q := 205) (tgt := 226) 60 rfl rfl (fun hb => ?_) (fun hb => ?_)
    · skip
      have b2 := hb
      replace h := h.1 hb
      refine s_iconst (q := 227) 72 rfl ?_
      exact s_iret 73 rfl rfl h
    · skip
      have b2 := hb
      replace h := h.2 hb
      refine s_iload_n (q := 206) 61 1 rfl rfl ?_
      refine s_bipush (q := 208) 62 rfl ?_
      refine s_icmp_ge (q := 211) (tgt := 226) 63 rfl rfl (fun hb => ?_) (fun hb => ?_)
      · skip
        have b3 := hb
        replace h := h.1 hb
        refine s_iconst (q := 227) 72 rfl ?_
        exact s_iret 73 rfl rfl h
      · skip
        have b3 := hb
        replace h := h.2 hb
        refine s_aload_n (q := 212) 64 0 rfl rfl ?_
        obtain ⟨c4, h⟩ := h
        refine n_getf (q := 215) (jj := 0) 65 11 0 rfl kX11_10 c4 ?_
        obtain ⟨c5, h⟩ := h
        refine n_getf (q := 218) (jj := 1) 66 1 1 rfl kX11_154 c5 ?_
        refine s_iload_n (q := 219) 67 1 rfl rfl ?_
        refine s_bipush (q := 221) 68 rfl ?_
        obtain ⟨c6, h⟩ := h
        refine n_isub (q := 222) 69 rfl c6 ?_
        obtain ⟨c7, h⟩ := h
        obtain ⟨c8, h⟩ := h
        refine n_iald (q := 223) 70 rfl c7 c8 ?_
        refine s_goto (tgt := 227) 71 rfl rfl ?_
        exact s_iret 73 rfl rfl h
  · skip
    have b1 := hb
    replace h := h.2 hb
    refine s_iload_n (q := 184) 48 1 rfl rfl ?_
    refine s_bipush (q := 186) 49 rfl ?_
    refine s_icmp_ge (q := 189) (tgt := 199) 50 rfl rfl (fun hb => ?_) (fun hb => ?_)
    · skip
      have b9 := hb
      replace h := h.1 hb
      refine s_iload_n (q := 200) 58 1 rfl rfl ?_
      refine s_bipush (q := 202) 59 rfl ?_
      refine s_icmp_lt (q := 205) (tgt := 226) 60 rfl rfl (fun hb => ?_) (fun hb => ?_)
      · skip
        have b10 := hb
        replace h := h.1 hb
        refine s_iconst (q := 227) 72 rfl ?_
        exact s_iret 73 rfl rfl h
      · skip
        have b10 := hb
        replace h := h.2 hb
        refine s_iload_n (q := 206) 61 1 rfl rfl ?_
        refine s_bipush (q := 208) 62 rfl ?_
        refine s_icmp_ge (q := 211) (tgt := 226) 63 rfl rfl (fun hb => ?_) (fun hb => ?_)
        · skip
          have b11 := hb
          replace h := h.1 hb
          refine s_iconst (q := 227) 72 rfl ?_
          exact s_iret 73 rfl rfl h
        · skip
          have b11 := hb
          replace h := h.2 hb
          refine s_aload_n (q := 212) 64 0 rfl rfl ?_
          obtain ⟨c12, h⟩ := h
          refine n_getf (q := 215) (jj := 0) 65 11 0 rfl kX11_10 c12 ?_
          obtain ⟨c13, h⟩ := h
          refine n_getf (q := 218) (jj := 1) 66 1 1 rfl kX11_154 c13 ?_
          refine s_iload_n (q := 219) 67 1 rfl rfl ?_
          refine s_bipush (q := 221) 68 rfl ?_
          obtain ⟨c14, h⟩ := h
          refine n_isub (q := 222) 69 rfl c14 ?_
          obtain ⟨c15, h⟩ := h
          obtain ⟨c16, h⟩ := h
          refine n_iald (q := 223) 70 rfl c15 c16 ?_
          refine s_goto (tgt := 227) 71 rfl rfl ?_
          exact s_iret 73 rfl rfl h
    · skip
      have b9 := hb
      replace h := h.2 hb
      refine s_aload_n (q := 190) 51 0 rfl rfl ?_
      obtain ⟨c17, h⟩ := h
      refine n_getf (q := 193) (jj := 13) 52 11 13 rfl kX11_87 c17 ?_
      refine s_iload_n (q := 194) 53 1 rfl rfl ?_
      refine s_bipush (q := 196) 54 rfl ?_
      obtain ⟨c18, h⟩ := h
      refine n_isub (q := 197) 55 rfl c18 ?_
      obtain ⟨c19, h⟩ := h
      obtain ⟨c20, h⟩ := h
      refine n_iald (q := 198) 56 rfl c19 c20 ?_
      exact s_iret 57 rfl rfl h
theorem vX11_status_0 {l : Launch} {G : pG} {bg : Nat × Nat} {n : Nat} {K : Int → Nat × Nat} {F E : Int → Int → Int} {Q : Option pV → pM → Prop} (x0 : Int) (h : (K x0).1 = 11 ∧ Q (some (0, F x0 16)) (n, K, F, E)) : PW l G 0 mX11_status bg 0 [(0, (2, x0))] [] (n, K, F, E) Q := by
  refine s_aload_n (q := 1) 0 0 rfl rfl ?_
  obtain ⟨c1, h⟩ := h
  refine n_getf (q := 4) (jj := 16) 1 11 16 rfl kX11_97 c1 ?_
  exact s_iret 2 rfl rfl h
theorem vX11_settle_0 {l : Launch} {G : pG} {bg : Nat × Nat} {n : Nat} {K : Int → Nat × Nat} {F E : Int → Int → Int} {Q : Option pV → pM → Prop} (x0 x1 : Int) (h : ((0 ≤ x1 → (K x0).1 = 11 ∧ (∀ F1, F1 = pUp F x0 16 0 → Q (some (0, x1)) (n, K, F1, E))) ∧ (¬ (0 ≤ x1) → (K x0).1 = 11 ∧ (∀ F2, F2 = pUp F x0 16 x1 → ((x1 < (-3) → (-2147483648 ≤ -x1 ∧ -x1 < 2147483648) ∧ (-2147483648 ≤ (-x1) - 2 ∧ (-x1) - 2 < 2147483648) ∧ (((-x1) - 2 < 0 → Q (some (0, x1)) (n, K, F2, E)) ∧ (¬ ((-x1) - 2 < 0) → ((5 ≤ (-x1) - 2 → Q (some (0, x1)) (n, K, F2, E)) ∧ (¬ (5 ≤ (-x1) - 2) → (K (F x0 13)).1 = 20 ∧ ((0 : Int) ≤ (-x1) - 2 ∧ (-x1) - 2 < ((K (F x0 13)).2 : Int)) ∧ (0 : Int) ≤ F x0 13 ∧ (∀ E3, E3 = pUp E (F x0 13) ((-x1) - 2) (w32 ((E (F x0 13) ((-x1) - 2)) + 1)) → Q (some (0, x1)) (n, K, F2, E3))))))) ∧ (¬ (x1 < (-3)) → (-2147483648 ≤ -x1 ∧ -x1 < 2147483648) ∧ (-2147483648 ≤ (-x1) - 1 ∧ (-x1) - 1 < 2147483648) ∧ (((-x1) - 1 < 0 → Q (some (0, x1)) (n, K, F2, E)) ∧ (¬ ((-x1) - 1 < 0) → ((5 ≤ (-x1) - 1 → Q (some (0, x1)) (n, K, F2, E)) ∧ (¬ (5 ≤ (-x1) - 1) → (K (F x0 13)).1 = 20 ∧ ((0 : Int) ≤ (-x1) - 1 ∧ (-x1) - 1 < ((K (F x0 13)).2 : Int)) ∧ (0 : Int) ≤ F x0 13 ∧ (∀ E4, E4 = pUp E (F x0 13) ((-x1) - 1) (w32 ((E (F x0 13) ((-x1) - 1)) + 1)) → Q (some (0, x1)) (n, K, F2, E4)))))))))))) : PW l G 1 mX11_settle bg 0 [(0, (2, x0)), (1, (0, x1))] [] (n, K, F, E) Q := by
  refine s_iload_n (q := 1) 0 1 rfl rfl ?_
  refine s_if_ge (q := 4) (tgt := 12) 1 rfl rfl (fun hb => ?_) (fun hb => ?_)
  · skip
    have b1 := hb
    replace h := h.1 hb
    refine s_aload_n (q := 13) 6 0 rfl rfl ?_
    refine s_iload_n (q := 14) 7 1 rfl rfl ?_
    obtain ⟨c2, h⟩ := h
    refine n_callV (N := mX11_accept) (as := [(0, x1)]) (st := []) (q := 17) (d' := 0) 8 rfl uX11_accept kX11_157 rfl c2 ?_
    show PW l G 0 mX11_accept (0, 0) 0 [(0, (2, x0)), (1, (0, x1))] [] (n, K, F, E) _
    refine s_aload_n (q := 1) 0 0 rfl rfl ?_
    refine s_iconst (q := 2) 1 rfl ?_
    refine n_putf (q := 5) (jj := 16) 2 11 16 rfl kX11_97 c2 (Or.inl rfl) ?_
    refine PW.nameF (fun F1 eF1 => ?_)
    replace h := h F1 eF1
    refine s_iload_n (q := 6) 3 1 rfl rfl ?_
    refine s_iret 4 rfl rfl ?_
    show PW l G 1 mX11_settle bg 17 [(0, (2, x0)), (1, (0, x1))] [(0, x1)] (n, K, F1, E) Q
    exact s_iret 9 rfl rfl h
  · skip
    have b1 := hb
    replace h := h.2 hb
    refine s_aload_n (q := 5) 2 0 rfl rfl ?_
    refine s_iload_n (q := 6) 3 1 rfl rfl ?_
    obtain ⟨c3, h⟩ := h
    refine n_callV (N := mX11_refuse) (as := [(0, x1)]) (st := []) (q := 9) (d' := 0) 4 rfl uX11_refuse kX11_114 rfl c3 ?_
    show PW l G 0 mX11_refuse (0, 0) 0 [(0, (2, x0)), (1, (0, x1))] [] (n, K, F, E) _
    refine s_aload_n (q := 1) 0 0 rfl rfl ?_
    refine s_iload_n (q := 2) 1 1 rfl rfl ?_
    refine n_putf (q := 5) (jj := 16) 2 11 16 rfl kX11_97 c3 (Or.inl rfl) ?_
    refine PW.nameF (fun F2 eF2 => ?_)
    replace h := h F2 eF2
    refine s_iload_n (q := 6) 3 1 rfl rfl ?_
    refine s_bipush (q := 8) 4 rfl ?_
    refine s_icmp_lt (q := 11) (tgt := 18) 5 rfl rfl (fun hb => ?_) (fun hb => ?_)
    · skip
      have b4 := hb
      replace h := h.1 hb
      refine s_iload_n (q := 19) 11 1 rfl rfl ?_
      obtain ⟨c5, h⟩ := h
      refine n_ineg (q := 20) 12 rfl c5 ?_
      refine s_iconst (q := 21) 13 rfl ?_
      obtain ⟨c6, h⟩ := h
      refine n_isub (q := 22) 14 rfl c6 ?_
      refine s_istore_n (q := 23) (lv' := [(2, (0, (-x1) - 2)), (0, (2, x0)), (1, (0, x1))]) 15 rfl rfl ?_
      refine s_iload_n (q := 24) 16 0 rfl rfl ?_
      refine s_if_lt (q := 27) (tgt := 42) 17 rfl rfl (fun hb => ?_) (fun hb => ?_)
      · skip
        have b7 := hb
        replace h := h.1 hb
        refine s_iload_n (q := 43) 29 2 rfl rfl ?_
        refine s_iret 30 rfl rfl ?_
        show PW l G 1 mX11_settle bg 9 [(0, (2, x0)), (1, (0, x1))] [(0, x1)] (n, K, F2, E) Q
        refine s_goto (tgt := 17) 5 rfl rfl ?_
        exact s_iret 9 rfl rfl h
      · skip
        have b7 := hb
        replace h := h.2 hb
        refine s_iload_n (q := 28) 18 0 rfl rfl ?_
        refine s_iconst (q := 29) 19 rfl ?_
        refine s_icmp_ge (q := 32) (tgt := 42) 20 rfl rfl (fun hb => ?_) (fun hb => ?_)
        · skip
          have b8 := hb
          replace h := h.1 hb
          refine s_iload_n (q := 43) 29 2 rfl rfl ?_
          refine s_iret 30 rfl rfl ?_
          show PW l G 1 mX11_settle bg 9 [(0, (2, x0)), (1, (0, x1))] [(0, x1)] (n, K, F2, E) Q
          refine s_goto (tgt := 17) 5 rfl rfl ?_
          exact s_iret 9 rfl rfl h
        · skip
          have b8 := hb
          replace h := h.2 hb
          refine s_aload_n (q := 33) 21 1 rfl rfl ?_
          refine n_getf (q := 36) (jj := 13) 22 11 13 rfl kX11_87 c3 ?_
          refine PW.top (b := F x0 13) (by exact (congrFun (congrFun eF2 _) _).trans (pUp_k (by decide))) ?_
          refine s_iload_n (q := 37) 23 0 rfl rfl ?_
          refine s_dup2 (q := 38) 24 rfl ?_
          obtain ⟨c9, h⟩ := h
          obtain ⟨c10, h⟩ := h
          refine n_iald (q := 39) 25 rfl c9 c10 ?_
          refine s_iconst (q := 40) 26 rfl ?_
          refine s_iadd (q := 41) 27 rfl ?_
          obtain ⟨c11, h⟩ := h
          refine n_iast (q := 42) 28 rfl c11 c9 c10 ?_
          refine PW.nameE (fun E3 eE3 => ?_)
          replace h := h E3 eE3
          refine s_iload_n (q := 43) 29 2 rfl rfl ?_
          refine s_iret 30 rfl rfl ?_
          show PW l G 1 mX11_settle bg 9 [(0, (2, x0)), (1, (0, x1))] [(0, x1)] (n, K, F2, E3) Q
          refine s_goto (tgt := 17) 5 rfl rfl ?_
          exact s_iret 9 rfl rfl h
    · skip
      have b4 := hb
      replace h := h.2 hb
      refine s_iload_n (q := 12) 6 1 rfl rfl ?_
      obtain ⟨c12, h⟩ := h
      refine n_ineg (q := 13) 7 rfl c12 ?_
      refine s_iconst (q := 14) 8 rfl ?_
      obtain ⟨c13, h⟩ := h
      refine n_isub (q := 15) 9 rfl c13 ?_
      refine s_goto (tgt := 22) 10 rfl rfl ?_
      refine s_istore_n (q := 23) (lv' := [(2, (0, (-x1) - 1)), (0, (2, x0)), (1, (0, x1))]) 15 rfl rfl ?_
      refine s_iload_n (q := 24) 16 0 rfl rfl ?_
      refine s_if_lt (q := 27) (tgt := 42) 17 rfl rfl (fun hb => ?_) (fun hb => ?_)
      · skip
        have b14 := hb
        replace h := h.1 hb
        refine s_iload_n (q := 43) 29 2 rfl rfl ?_
        refine s_iret 30 rfl rfl ?_
        show PW l G 1 mX11_settle bg 9 [(0, (2, x0)), (1, (0, x1))] [(0, x1)] (n, K, F2, E) Q
        refine s_goto (tgt := 17) 5 rfl rfl ?_
        exact s_iret 9 rfl rfl h
      · skip
        have b14 := hb
        replace h := h.2 hb
        refine s_iload_n (q := 28) 18 0 rfl rfl ?_
        refine s_iconst (q := 29) 19 rfl ?_
        refine s_icmp_ge (q := 32) (tgt := 42) 20 rfl rfl (fun hb => ?_) (fun hb => ?_)
        · skip
          have b15 := hb
          replace h := h.1 hb
          refine s_iload_n (q := 43) 29 2 rfl rfl ?_
          refine s_iret 30 rfl rfl ?_
          show PW l G 1 mX11_settle bg 9 [(0, (2, x0)), (1, (0, x1))] [(0, x1)] (n, K, F2, E) Q
          refine s_goto (tgt := 17) 5 rfl rfl ?_
          exact s_iret 9 rfl rfl h
        · skip
          have b15 := hb
          replace h := h.2 hb
          refine s_aload_n (q := 33) 21 1 rfl rfl ?_
          refine n_getf (q := 36) (jj := 13) 22 11 13 rfl kX11_87 c3 ?_
          refine PW.top (b := F x0 13) (by exact (congrFun (congrFun eF2 _) _).trans (pUp_k (by decide))) ?_
          refine s_iload_n (q := 37) 23 0 rfl rfl ?_
          refine s_dup2 (q := 38) 24 rfl ?_
          obtain ⟨c16, h⟩ := h
          obtain ⟨c17, h⟩ := h
          refine n_iald (q := 39) 25 rfl c16 c17 ?_
          refine s_iconst (q := 40) 26 rfl ?_
          refine s_iadd (q := 41) 27 rfl ?_
          obtain ⟨c18, h⟩ := h
          refine n_iast (q := 42) 28 rfl c18 c16 c17 ?_
          refine PW.nameE (fun E4 eE4 => ?_)
          replace h := h E4 eE4
          refine s_iload_n (q := 43) 29 2 rfl rfl ?_
          refine s_iret 30 rfl rfl ?_
          show PW l G 1 mX11_settle bg 9 [(0, (2, x0)), (1, (0, x1))] [(0, x1)] (n, K, F2, E4) Q
          refine s_goto (tgt := 17) 5 rfl rfl ?_
          exact s_iret 9 rfl rfl h
theorem vX11_tell_0 {l : Launch} {G : pG} {bg : Nat × Nat} {n : Nat} {K : Int → Nat × Nat} {F E : Int → Int → Int} {Q : Option pV → pM → Prop} (x0 x1 x2 x3 x4 x5 : Int) (h : (K x0).1 = 11 ∧ (K (F x0 0)).1 = 1 ∧ (K (F (F x0 0) 0)).1 = 0 ∧ (K (F (F (F x0 0) 0) 0)).1 = 20 ∧ ((0 : Int) ≤ 0 ∧ 0 < ((K (F (F (F x0 0) 0) 0)).2 : Int)) ∧ ((E (F (F (F x0 0) 0) 0) 0 < 4 → (K (F x0 3)).1 = 3 ∧ PC l G 0 mX3_push (0, 0) [(2, F x0 3), (0, 1), (2, F (F x0 0) 0)] (n, K, F, E) (fun r μ => PW l G 1 mX11_tell bg 36 [(0, (2, x0)), (1, (0, x1)), (2, (0, x2)), (3, (0, x3)), (4, (0, x4)), (5, (0, x5))] (r.toList ++ []) μ Q)) ∧ (¬ (E (F (F (F x0 0) 0) 0) 0 < 4) → (∀ F1, F1 = pUp F x0 16 (-5) → (K (F x0 13)).1 = 20 ∧ ((0 : Int) ≤ 3 ∧ 3 < ((K (F x0 13)).2 : Int)) ∧ (0 : Int) ≤ F x0 13 ∧ (∀ E2, E2 = pUp E (F x0 13) 3 (w32 ((E (F x0 13) 3) + 1)) → Q (some (0, (-5))) (n, K, F1, E2)))))) : PW l G 1 mX11_tell bg 0 [(0, (2, x0)), (1, (0, x1)), (2, (0, x2)), (3, (0, x3)), (4, (0, x4)), (5, (0, x5))] [] (n, K, F, E) Q := by
  refine s_aload_n (q := 1) 0 0 rfl rfl ?_
  obtain ⟨c1, h⟩ := h
  refine n_getf (q := 4) (jj := 0) 1 11 0 rfl kX11_10 c1 ?_
  obtain ⟨c2, h⟩ := h
  refine n_getf (q := 7) (jj := 0) 2 1 0 rfl kX11_125 c2 ?_
  obtain ⟨c3, h⟩ := h
  refine n_callV (N := mX0_operators) (as := []) (st := []) (q := 10) (d' := 0) 3 rfl uX0_operators kX11_279 rfl c3 ?_
  show PW l G 0 mX0_operators (0, 0) 0 [(0, (2, F (F x0 0) 0))] [] (n, K, F, E) _
  refine s_aload_n (q := 1) 0 0 rfl rfl ?_
  refine n_getf (q := 4) (jj := 0) 1 0 0 rfl kX0_11 c3 ?_
  refine s_iconst (q := 5) 2 rfl ?_
  obtain ⟨c4, h⟩ := h
  obtain ⟨c5, h⟩ := h
  refine n_iald (q := 6) 3 rfl c4 c5 ?_
  refine s_iret 4 rfl rfl ?_
  show PW l G 1 mX11_tell bg 10 [(0, (2, x0)), (1, (0, x1)), (2, (0, x2)), (3, (0, x3)), (4, (0, x4)), (5, (0, x5))] [(0, E (F (F (F x0 0) 0) 0) 0)] (n, K, F, E) Q
  refine s_iconst (q := 11) 4 rfl ?_
  refine s_icmp_lt (q := 14) (tgt := 21) 5 rfl rfl (fun hb => ?_) (fun hb => ?_)
  · skip
    have b6 := hb
    replace h := h.1 hb
    refine s_aload_n (q := 22) 10 0 rfl rfl ?_
    refine n_getf (q := 25) (jj := 3) 11 11 3 rfl kX11_27 c1 ?_
    refine s_iconst (q := 26) 12 rfl ?_
    refine s_aload_n (q := 27) 13 0 rfl rfl ?_
    refine n_getf (q := 30) (jj := 0) 14 11 0 rfl kX11_10 c1 ?_
    refine n_getf (q := 33) (jj := 0) 15 1 0 rfl kX11_125 c2 ?_
    obtain ⟨c7, h⟩ := h
    refine PW.pick [0, 1, 2, 3, 4, 5] rfl ?_
    exact n_callV (N := mX3_push) (as := [(0, 1), (2, F (F x0 0) 0)]) (st := []) (q := 36) (d' := 0) 16 rfl uX3_push kX11_329 rfl c7 h
  · skip
    have b6 := hb
    replace h := h.2 hb
    refine s_aload_n (q := 15) 6 0 rfl rfl ?_
    refine s_bipush (q := 17) 7 rfl ?_
    refine n_callV (N := mX11_refuse) (as := [(0, (-5))]) (st := []) (q := 20) (d' := 0) 8 rfl uX11_refuse kX11_114 rfl c1 ?_
    show PW l G 0 mX11_refuse (0, 0) 0 [(0, (2, x0)), (1, (0, (-5)))] [] (n, K, F, E) _
    refine s_aload_n (q := 1) 0 0 rfl rfl ?_
    refine s_iload_n (q := 2) 1 1 rfl rfl ?_
    refine n_putf (q := 5) (jj := 16) 2 11 16 rfl kX11_97 c1 (Or.inl rfl) ?_
    refine PW.nameF (fun F1 eF1 => ?_)
    replace h := h F1 eF1
    refine s_iload_n (q := 6) 3 1 rfl rfl ?_
    refine s_bipush (q := 8) 4 rfl ?_
    refine s_icmp_lt (q := 11) (tgt := 18) 5 rfl rfl (fun _ => ?_) (fun hb => absurd (by decide) hb)
    refine s_iload_n (q := 19) 11 1 rfl rfl ?_
    refine n_ineg (q := 20) 12 rfl (by decide) ?_
    refine PW.top (b := 5) (by decide) ?_
    refine s_iconst (q := 21) 13 rfl ?_
    refine n_isub (q := 22) 14 rfl (by decide) ?_
    refine PW.top (b := 3) (by decide) ?_
    refine s_istore_n (q := 23) (lv' := [(2, (0, 3)), (0, (2, x0)), (1, (0, (-5)))]) 15 rfl rfl ?_
    refine s_iload_n (q := 24) 16 0 rfl rfl ?_
    refine s_if_lt (q := 27) (tgt := 42) 17 rfl rfl (fun hb => absurd hb (by decide)) (fun _ => ?_)
    refine s_iload_n (q := 28) 18 0 rfl rfl ?_
    refine s_iconst (q := 29) 19 rfl ?_
    refine s_icmp_ge (q := 32) (tgt := 42) 20 rfl rfl (fun hb => absurd hb (by decide)) (fun _ => ?_)
    refine s_aload_n (q := 33) 21 1 rfl rfl ?_
    refine n_getf (q := 36) (jj := 13) 22 11 13 rfl kX11_87 c1 ?_
    refine PW.top (b := F x0 13) (by exact (congrFun (congrFun eF1 _) _).trans (pUp_k (by decide))) ?_
    refine s_iload_n (q := 37) 23 0 rfl rfl ?_
    refine s_dup2 (q := 38) 24 rfl ?_
    obtain ⟨c8, h⟩ := h
    obtain ⟨c9, h⟩ := h
    refine n_iald (q := 39) 25 rfl c8 c9 ?_
    refine s_iconst (q := 40) 26 rfl ?_
    refine s_iadd (q := 41) 27 rfl ?_
    obtain ⟨c10, h⟩ := h
    refine n_iast (q := 42) 28 rfl c10 c8 c9 ?_
    refine PW.nameE (fun E2 eE2 => ?_)
    replace h := h E2 eE2
    refine s_iload_n (q := 43) 29 2 rfl rfl ?_
    refine s_iret 30 rfl rfl ?_
    show PW l G 1 mX11_tell bg 20 [(0, (2, x0)), (1, (0, x1)), (2, (0, x2)), (3, (0, x3)), (4, (0, x4)), (5, (0, x5))] [(0, (-5))] (n, K, F1, E2) Q
    exact s_iret 9 rfl rfl h
theorem vX11_tell_36 {l : Launch} {G : pG} {bg : Nat × Nat} {n : Nat} {K : Int → Nat × Nat} {F E : Int → Int → Int} {Q : Option pV → pM → Prop} (x0 x1 x2 x3 x4 x5 : Int) (h : (K x0).1 = 11 ∧ (K (F x0 0)).1 = 1 ∧ (K (F (F x0 0) 0)).1 = 0 ∧ PC l G 0 mX0_addOperator (0, 0) [(2, F (F x0 0) 0), (0, x1), (0, x2), (0, x3), (0, x4), (0, x5)] (n, K, F, E) (fun r μ => PW l G 1 mX11_tell bg 54 [] (r.toList ++ [(2, x0)]) μ Q)) : PW l G 1 mX11_tell bg 36 [(0, (2, x0)), (1, (0, x1)), (2, (0, x2)), (3, (0, x3)), (4, (0, x4)), (5, (0, x5))] [] (n, K, F, E) Q := by
  refine s_aload_n (q := 37) 17 0 rfl rfl ?_
  refine s_aload_n (q := 38) 18 0 rfl rfl ?_
  obtain ⟨c1, h⟩ := h
  refine n_getf (q := 41) (jj := 0) 19 11 0 rfl kX11_10 c1 ?_
  obtain ⟨c2, h⟩ := h
  refine n_getf (q := 44) (jj := 0) 20 1 0 rfl kX11_125 c2 ?_
  refine s_iload_n (q := 45) 21 1 rfl rfl ?_
  refine s_iload_n (q := 46) 22 2 rfl rfl ?_
  refine s_iload_n (q := 47) 23 3 rfl rfl ?_
  refine s_iload (q := 49) 24 4 rfl rfl ?_
  refine s_iload (q := 51) 25 5 rfl rfl ?_
  obtain ⟨c3, h⟩ := h
  refine PW.pick [] rfl ?_
  exact n_callV (N := mX0_addOperator) (as := [(0, x1), (0, x2), (0, x3), (0, x4), (0, x5)]) (st := [(2, x0)]) (q := 54) (d' := 0) 26 rfl uX0_addOperator kX11_333 rfl c3 h
theorem vX11_tell_54 {l : Launch} {G : pG} {bg : Nat × Nat} {n : Nat} {K : Int → Nat × Nat} {F E : Int → Int → Int} {Q : Option pV → pM → Prop} (s0 s1 : Int) (h : (K s1).1 = 11 ∧ (∀ F1, F1 = pUp F s1 16 0 → Q (some (0, s0)) (n, K, F1, E))) : PW l G 1 mX11_tell bg 54 [] [(0, s0), (2, s1)] (n, K, F, E) Q := by
  obtain ⟨c1, h⟩ := h
  refine n_callV (N := mX11_accept) (as := [(0, s0)]) (st := []) (q := 57) (d' := 0) 27 rfl uX11_accept kX11_157 rfl c1 ?_
  show PW l G 0 mX11_accept (0, 0) 0 [(0, (2, s1)), (1, (0, s0))] [] (n, K, F, E) _
  refine s_aload_n (q := 1) 0 0 rfl rfl ?_
  refine s_iconst (q := 2) 1 rfl ?_
  refine n_putf (q := 5) (jj := 16) 2 11 16 rfl kX11_97 c1 (Or.inl rfl) ?_
  refine PW.nameF (fun F1 eF1 => ?_)
  replace h := h F1 eF1
  refine s_iload_n (q := 6) 3 1 rfl rfl ?_
  refine s_iret 4 rfl rfl ?_
  show PW l G 1 mX11_tell bg 57 [] [(0, s0)] (n, K, F1, E) Q
  exact s_iret 28 rfl rfl h
theorem vX11_comeTo_0 {l : Launch} {G : pG} {bg : Nat × Nat} {n : Nat} {K : Int → Nat × Nat} {F E : Int → Int → Int} {Q : Option pV → pM → Prop} (x0 x1 x2 x3 x4 x5 : Int) (h : (((0 ≤ x3 ∧ x3 < 3) ∧ (0 ≤ x4 ∧ x4 < 10) ∧ (0 ≤ x5 ∧ x5 < 10) → (K x0).1 = 11 ∧ (K (F x0 0)).1 = 1 ∧ PC l G 0 mX1_lawInForce (0, 0) [(2, F x0 0)] (n, K, F, E) (fun r μ => PW l G 31 mX11_comeTo bg 24 [(0, (2, x0)), (1, (2, x1)), (2, (2, x2)), (3, (0, x3)), (4, (0, x4)), (5, (0, x5))] (r.toList ++ [(2, F x0 10)]) μ Q)) ∧ (¬ ((0 ≤ x3 ∧ x3 < 3) ∧ (0 ≤ x4 ∧ x4 < 10) ∧ (0 ≤ x5 ∧ x5 < 10)) → Q (some (0, (-1))) (n, K, F, E)))) : PW l G 31 mX11_comeTo bg 0 [(0, (2, x0)), (1, (2, x1)), (2, (2, x2)), (3, (0, x3)), (4, (0, x4)), (5, (0, x5))] [] (n, K, F, E) Q := by
  refine s_iload_n (q := 1) 0 3 rfl rfl ?_
  refine s_iload (q := 3) 1 4 rfl rfl ?_
  refine s_iload (q := 5) 2 5 rfl rfl ?_
  refine n_callS (N := mX11_isTuple) (as := [(0, x3), (0, x4), (0, x5)]) (st := []) (q := 8) (d' := 1) 3 rfl uX11_isTuple kX11_266 rfl (pX11_isTuple ?_)
  show PW l G 31 mX11_comeTo bg 8 [(0, (2, x0)), (1, (2, x1)), (2, (2, x2)), (3, (0, x3)), (4, (0, x4)), (5, (0, x5))] [(0, bI ((0 ≤ x3 ∧ x3 < 3) ∧ (0 ≤ x4 ∧ x4 < 10) ∧ (0 ≤ x5 ∧ x5 < 10)))] (n, K, F, E) Q
  refine s_if_ne (q := 11) (tgt := 13) 4 rfl rfl (fun hb => ?_) (fun hb => ?_)
  · have hb := bI_t hb
    have b1 := hb
    replace h := h.1 hb
    refine s_aload_n (q := 14) 7 0 rfl rfl ?_
    obtain ⟨c2, h⟩ := h
    refine n_getf (q := 17) (jj := 10) 8 11 10 rfl kX11_69 c2 ?_
    refine s_aload_n (q := 18) 9 0 rfl rfl ?_
    refine n_getf (q := 21) (jj := 0) 10 11 0 rfl kX11_10 c2 ?_
    obtain ⟨c3, h⟩ := h
    refine PW.pick [0, 1, 2, 3, 4, 5] rfl ?_
    exact n_callV (N := mX1_lawInForce) (as := []) (st := [(2, F x0 10)]) (q := 24) (d' := 0) 11 rfl uX1_lawInForce kX11_270 rfl c3 h
  · have hb := bI_f2 hb
    have b1 := hb
    replace h := h.2 hb
    refine s_iconst (q := 12) 5 rfl ?_
    exact s_iret 6 rfl rfl h
theorem vX11_comeTo_24 {l : Launch} {G : pG} {bg : Nat × Nat} {n : Nat} {K : Int → Nat × Nat} {F E : Int → Int → Int} {Q : Option pV → pM → Prop} (x0 x1 x2 x3 x4 x5 s0 s1 : Int) (h : (K x0).1 = 11 ∧ (K (F x0 0)).1 = 1 ∧ (K (F (F x0 0) 1)).1 = 20 ∧ ((0 : Int) ≤ 2 ∧ 2 < ((K (F (F x0 0) 1)).2 : Int)) ∧ ((0 : Int) ≤ 0 ∧ 0 < ((K (F (F x0 0) 1)).2 : Int)) ∧ (K s1).1 = 6 ∧ (∀ F1, F1 = pUp F s1 3 s0 → (∀ F2, F2 = pUp F1 s1 5 (E (F (F x0 0) 1) 0) → (∀ F3, F3 = pUp F2 s1 4 (-1) → (0 : Int) ≤ F s1 1 ∧ (K (F s1 1)).1 = 20 ∧ ((0 : Int) ≤ 7 ∧ 7 < ((K (F s1 1)).2 : Int)) ∧ (∀ E4, E4 = pUp E (F s1 1) 7 (E (F (F x0 0) 1) 2) → (K (F x0 10)).1 = 6 ∧ PC l G 1 mX6_setTuple (0, 0) [(2, F x0 10), (2, x1), (0, x3), (0, x4), (0, x5)] (n, K, F3, E4) (fun r μ => PW l G 31 mX11_comeTo bg 59 [(0, (2, x0)), (1, (2, x1)), (2, (2, x2)), (3, (0, x3)), (4, (0, x4)), (5, (0, x5))] (r.toList ++ []) μ Q)))))) : PW l G 31 mX11_comeTo bg 24 [(0, (2, x0)), (1, (2, x1)), (2, (2, x2)), (3, (0, x3)), (4, (0, x4)), (5, (0, x5))] [(2, s0), (2, s1)] (n, K, F, E) Q := by
  refine s_aload_n (q := 25) 12 0 rfl rfl ?_
  obtain ⟨c1, h⟩ := h
  refine n_getf (q := 28) (jj := 0) 13 11 0 rfl kX11_10 c1 ?_
  obtain ⟨c2, h⟩ := h
  refine n_getf (q := 31) (jj := 1) 14 1 1 rfl kX11_154 c2 ?_
  refine s_iconst (q := 32) 15 rfl ?_
  obtain ⟨c3, h⟩ := h
  obtain ⟨c4, h⟩ := h
  refine n_iald (q := 33) 16 rfl c3 c4 ?_
  refine s_aload_n (q := 34) 17 0 rfl rfl ?_
  refine n_getf (q := 37) (jj := 0) 18 11 0 rfl kX11_10 c1 ?_
  refine n_getf (q := 40) (jj := 1) 19 1 1 rfl kX11_154 c2 ?_
  refine s_iconst (q := 41) 20 rfl ?_
  obtain ⟨c5, h⟩ := h
  refine n_iald (q := 42) 21 rfl c3 c5 ?_
  refine s_null (q := 43) 22 rfl ?_
  obtain ⟨c6, h⟩ := h
  refine n_callV (N := mX6_setTerms) (as := [(2, s0), (0, E (F (F x0 0) 1) 2), (0, E (F (F x0 0) 1) 0), (2, (-1))]) (st := []) (q := 46) (d' := 0) 23 rfl uX6_setTerms kX11_336 rfl c6 ?_
  show PW l G 0 mX6_setTerms (0, 0) 0 [(0, (2, s1)), (1, (2, s0)), (2, (0, E (F (F x0 0) 1) 2)), (3, (0, E (F (F x0 0) 1) 0)), (4, (2, (-1)))] [] (n, K, F, E) _
  refine s_aload_n (q := 1) 0 0 rfl rfl ?_
  refine s_aload_n (q := 2) 1 1 rfl rfl ?_
  refine n_putf (q := 5) (jj := 3) 2 6 3 rfl kX6_29 c6 (Or.inr (Or.inr (Or.inr (Or.inl ⟨_, rfl⟩)))) ?_
  refine PW.nameF (fun F1 eF1 => ?_)
  replace h := h F1 eF1
  refine s_aload_n (q := 6) 3 0 rfl rfl ?_
  refine s_iload_n (q := 7) 4 3 rfl rfl ?_
  refine n_putf (q := 10) (jj := 5) 5 6 5 rfl kX6_36 c6 (Or.inl rfl) ?_
  refine PW.nameF (fun F2 eF2 => ?_)
  replace h := h F2 eF2
  refine s_aload_n (q := 11) 6 0 rfl rfl ?_
  refine s_aload (q := 13) 7 4 rfl rfl ?_
  refine n_putf (q := 16) (jj := 4) 8 6 4 rfl kX6_33 c6 (Or.inr (Or.inr (Or.inr (Or.inr ⟨_, rfl⟩)))) ?_
  refine PW.nameF (fun F3 eF3 => ?_)
  replace h := h F3 eF3
  refine s_aload_n (q := 17) 9 0 rfl rfl ?_
  refine n_getf (q := 20) (jj := 1) 10 6 1 rfl kX6_18 c6 ?_
  refine PW.top (b := F s1 1) (by refine (congrFun (congrFun eF3 _) _).trans ((pUp_k (by decide)).trans ?_); refine (congrFun (congrFun eF2 _) _).trans ((pUp_k (by decide)).trans ?_); exact (congrFun (congrFun eF1 _) _).trans (pUp_k (by decide))) ?_
  refine s_bipush (q := 22) 11 rfl ?_
  refine s_iload_n (q := 23) 12 2 rfl rfl ?_
  obtain ⟨c7, h⟩ := h
  obtain ⟨c8, h⟩ := h
  obtain ⟨c9, h⟩ := h
  refine n_iast (q := 24) 13 rfl c7 c8 c9 ?_
  refine PW.nameE (fun E4 eE4 => ?_)
  replace h := h E4 eE4
  refine s_vret 14 rfl rfl ?_
  show PW l G 31 mX11_comeTo bg 46 [(0, (2, x0)), (1, (2, x1)), (2, (2, x2)), (3, (0, x3)), (4, (0, x4)), (5, (0, x5))] [] (n, K, F3, E4) Q
  refine s_aload_n (q := 47) 24 0 rfl rfl ?_
  refine n_getf (q := 50) (jj := 10) 25 11 10 rfl kX11_69 c1 ?_
  refine PW.top (b := F x0 10) (by refine (congrFun (congrFun eF3 _) _).trans ((pUp_K c6 c1 (by decide)).trans ?_); refine (congrFun (congrFun eF2 _) _).trans ((pUp_K c6 c1 (by decide)).trans ?_); exact (congrFun (congrFun eF1 _) _).trans (pUp_K c6 c1 (by decide))) ?_
  refine s_aload_n (q := 51) 26 1 rfl rfl ?_
  refine s_iload_n (q := 52) 27 3 rfl rfl ?_
  refine s_iload (q := 54) 28 4 rfl rfl ?_
  refine s_iload (q := 56) 29 5 rfl rfl ?_
  obtain ⟨c10, h⟩ := h
  refine PW.pick [0, 1, 2, 3, 4, 5] rfl ?_
  exact n_callV (N := mX6_setTuple) (as := [(2, x1), (0, x3), (0, x4), (0, x5)]) (st := []) (q := 59) (d' := 1) 30 rfl uX6_setTuple kX11_340 rfl c10 h
theorem vX11_comeTo_59 {l : Launch} {G : pG} {bg : Nat × Nat} {n : Nat} {K : Int → Nat × Nat} {F E : Int → Int → Int} {Q : Option pV → pM → Prop} (x0 x1 x2 x3 x4 x5 : Int) (h : (K x1).1 = 0 ∧ (K (F x1 0)).1 = 20 ∧ ((0 : Int) ≤ 1 ∧ 1 < ((K (F x1 0)).2 : Int)) ∧ ((999 ≤ E (F x1 0) 1 → Q (some (0, (-3))) (n, K, F, E)) ∧ (¬ (999 ≤ E (F x1 0) 1) → (K x0).1 = 11 ∧ (K (F x0 10)).1 = 6 ∧ PC l G 3 mX6_isBarred (0, 0) [(2, F x0 10)] (n, K, F, E) (fun r μ => PW l G 31 mX11_comeTo bg 76 [(0, (2, x0)), (1, (2, x1)), (2, (2, x2)), (3, (0, x3)), (4, (0, x4)), (5, (0, x5))] (r.toList ++ []) μ Q)))) : PW l G 31 mX11_comeTo bg 59 [(0, (2, x0)), (1, (2, x1)), (2, (2, x2)), (3, (0, x3)), (4, (0, x4)), (5, (0, x5))] [] (n, K, F, E) Q := by
  refine s_aload_n (q := 60) 31 1 rfl rfl ?_
  obtain ⟨c1, h⟩ := h
  refine n_callV (N := mX0_latestStamp) (as := []) (st := []) (q := 63) (d' := 0) 32 rfl uX0_latestStamp kX11_326 rfl c1 ?_
  show PW l G 0 mX0_latestStamp (0, 0) 0 [(0, (2, x1))] [] (n, K, F, E) _
  refine s_aload_n (q := 1) 0 0 rfl rfl ?_
  refine n_getf (q := 4) (jj := 0) 1 0 0 rfl kX0_11 c1 ?_
  refine s_iconst (q := 5) 2 rfl ?_
  obtain ⟨c2, h⟩ := h
  obtain ⟨c3, h⟩ := h
  refine n_iald (q := 6) 3 rfl c2 c3 ?_
  refine s_iret 4 rfl rfl ?_
  show PW l G 31 mX11_comeTo bg 63 [(0, (2, x0)), (1, (2, x1)), (2, (2, x2)), (3, (0, x3)), (4, (0, x4)), (5, (0, x5))] [(0, E (F x1 0) 1)] (n, K, F, E) Q
  refine s_sipush (q := 66) 33 rfl ?_
  refine s_icmp_ge (q := 69) (tgt := 79) 34 rfl rfl (fun hb => ?_) (fun hb => ?_)
  · skip
    have b4 := hb
    replace h := h.1 hb
    refine s_bipush (q := 81) 39 rfl ?_
    exact s_iret 40 rfl rfl h
  · skip
    have b4 := hb
    replace h := h.2 hb
    refine s_aload_n (q := 70) 35 0 rfl rfl ?_
    obtain ⟨c5, h⟩ := h
    refine n_getf (q := 73) (jj := 10) 36 11 10 rfl kX11_69 c5 ?_
    obtain ⟨c6, h⟩ := h
    refine PW.pick [0, 1, 2, 3, 4, 5] rfl ?_
    exact n_callV (N := mX6_isBarred) (as := []) (st := []) (q := 76) (d' := 3) 37 rfl uX6_isBarred kX11_344 rfl c6 h
theorem vX11_comeTo_76 {l : Launch} {G : pG} {bg : Nat × Nat} {n : Nat} {K : Int → Nat × Nat} {F E : Int → Int → Int} {Q : Option pV → pM → Prop} (x0 x1 x2 x3 x4 x5 s0 : Int) (h : ((s0 = 0 → (K x0).1 = 11 ∧ (K (F x0 10)).1 = 6 ∧ PC l G 30 mX6_pass (0, 0) [(2, F x0 10), (0, 0), (0, 0)] (n, K, F, E) (fun r μ => PW l G 31 mX11_comeTo bg 91 [(0, (2, x0)), (1, (2, x1)), (2, (2, x2)), (3, (0, x3)), (4, (0, x4)), (5, (0, x5))] (r.toList ++ []) μ Q)) ∧ (¬ (s0 = 0) → Q (some (0, (-3))) (n, K, F, E)))) : PW l G 31 mX11_comeTo bg 76 [(0, (2, x0)), (1, (2, x1)), (2, (2, x2)), (3, (0, x3)), (4, (0, x4)), (5, (0, x5))] [(0, s0)] (n, K, F, E) Q := by
  refine s_if_eq (q := 79) (tgt := 82) 38 rfl rfl (fun hb => ?_) (fun hb => ?_)
  · skip
    have b1 := hb
    replace h := h.1 hb
    refine s_aload_n (q := 83) 41 0 rfl rfl ?_
    obtain ⟨c2, h⟩ := h
    refine n_getf (q := 86) (jj := 10) 42 11 10 rfl kX11_69 c2 ?_
    refine s_iconst (q := 87) 43 rfl ?_
    refine s_iconst (q := 88) 44 rfl ?_
    obtain ⟨c3, h⟩ := h
    refine PW.pick [0, 1, 2, 3, 4, 5] rfl ?_
    exact n_callW (N := mX6_pass) (as := [(0, 0), (0, 0)]) (st := []) (q := 91) (d' := 30) 45 rfl uX6_pass kX11_348 rfl c3 h
  · skip
    have b1 := hb
    replace h := h.2 hb
    refine s_bipush (q := 81) 39 rfl ?_
    exact s_iret 40 rfl rfl h
theorem vX11_comeTo_91 {l : Launch} {G : pG} {bg : Nat × Nat} {n : Nat} {K : Int → Nat × Nat} {F E : Int → Int → Int} {Q : Option pV → pM → Prop} (x0 x1 x2 x3 x4 x5 : Int) (h : (K x0).1 = 11 ∧ (K (F x0 10)).1 = 6 ∧ ((F (F x0 10) 16 = 0 → ((x2 = -1 → (K x1).1 = 0 ∧ PC l G 0 mX0_setTickets (0, 0) [(2, x1), (2, F (F x0 10) 9)] (n, K, F, E) (fun r μ => PW l G 31 mX11_comeTo bg 125 [(0, (2, x0)), (1, (2, x1)), (3, (0, x3)), (4, (0, x4)), (5, (0, x5))] (r.toList ++ []) μ Q)) ∧ (¬ (x2 = -1) → (K x2).1 = 3 ∧ PC l G 0 mX3_push (0, 0) [(2, x2), (0, 0), (2, x1)] (n, K, F, E) (fun r μ => PW l G 31 mX11_comeTo bg 114 [(0, (2, x0)), (1, (2, x1)), (3, (0, x3)), (4, (0, x4)), (5, (0, x5))] (r.toList ++ []) μ Q)))) ∧ (¬ (F (F x0 10) 16 = 0) → Q (some (0, (-5))) (n, K, F, E)))) : PW l G 31 mX11_comeTo bg 91 [(0, (2, x0)), (1, (2, x1)), (2, (2, x2)), (3, (0, x3)), (4, (0, x4)), (5, (0, x5))] [] (n, K, F, E) Q := by
  refine s_aload_n (q := 92) 46 0 rfl rfl ?_
  obtain ⟨c1, h⟩ := h
  refine n_getf (q := 95) (jj := 10) 47 11 10 rfl kX11_69 c1 ?_
  obtain ⟨c2, h⟩ := h
  refine n_getf (q := 98) (jj := 16) 48 6 16 rfl kX11_351 c2 ?_
  refine s_if_eq (q := 101) (tgt := 104) 49 rfl rfl (fun hb => ?_) (fun hb => ?_)
  · skip
    have b3 := hb
    replace h := h.1 hb
    refine s_aload_n (q := 105) 52 2 rfl rfl ?_
    refine s_ifnull (q := 108) (tgt := 114) 53 rfl rfl (fun hb => ?_) (fun hb => ?_)
    · replace h := h.1 hb
      refine s_aload_n (q := 115) 58 1 rfl rfl ?_
      refine s_aload_n (q := 116) 59 0 rfl rfl ?_
      refine n_getf (q := 119) (jj := 10) 60 11 10 rfl kX11_69 c1 ?_
      refine n_getf (q := 122) (jj := 9) 61 6 9 rfl kX11_354 c2 ?_
      obtain ⟨c4, h⟩ := h
      refine PW.pick [0, 1, 3, 4, 5] rfl ?_
      exact n_callV (N := mX0_setTickets) (as := [(2, F (F x0 10) 9)]) (st := []) (q := 125) (d' := 0) 62 rfl uX0_setTickets kX11_357 rfl c4 h
    · replace h := h.2 hb
      refine s_aload_n (q := 109) 54 2 rfl rfl ?_
      refine s_iconst (q := 110) 55 rfl ?_
      refine s_aload_n (q := 111) 56 1 rfl rfl ?_
      obtain ⟨c5, h⟩ := h
      refine PW.pick [0, 1, 3, 4, 5] rfl ?_
      exact n_callV (N := mX3_push) (as := [(0, 0), (2, x1)]) (st := []) (q := 114) (d' := 0) 57 rfl uX3_push kX11_329 rfl c5 h
  · skip
    have b3 := hb
    replace h := h.2 hb
    refine s_bipush (q := 103) 50 rfl ?_
    exact s_iret 51 rfl rfl h
theorem vX11_comeTo_114 {l : Launch} {G : pG} {bg : Nat × Nat} {n : Nat} {K : Int → Nat × Nat} {F E : Int → Int → Int} {Q : Option pV → pM → Prop} (x0 x1 x3 x4 x5 : Int) (h : (K x0).1 = 11 ∧ (K (F x0 10)).1 = 6 ∧ (K x1).1 = 0 ∧ PC l G 0 mX0_setTickets (0, 0) [(2, x1), (2, F (F x0 10) 9)] (n, K, F, E) (fun r μ => PW l G 31 mX11_comeTo bg 125 [(0, (2, x0)), (1, (2, x1)), (3, (0, x3)), (4, (0, x4)), (5, (0, x5))] (r.toList ++ []) μ Q)) : PW l G 31 mX11_comeTo bg 114 [(0, (2, x0)), (1, (2, x1)), (3, (0, x3)), (4, (0, x4)), (5, (0, x5))] [] (n, K, F, E) Q := by
  refine s_aload_n (q := 115) 58 1 rfl rfl ?_
  refine s_aload_n (q := 116) 59 0 rfl rfl ?_
  obtain ⟨c1, h⟩ := h
  refine n_getf (q := 119) (jj := 10) 60 11 10 rfl kX11_69 c1 ?_
  obtain ⟨c2, h⟩ := h
  refine n_getf (q := 122) (jj := 9) 61 6 9 rfl kX11_354 c2 ?_
  obtain ⟨c3, h⟩ := h
  refine PW.pick [0, 1, 2, 3, 4] rfl ?_
  exact n_callV (N := mX0_setTickets) (as := [(2, F (F x0 10) 9)]) (st := []) (q := 125) (d' := 0) 62 rfl uX0_setTickets kX11_357 rfl c3 h
theorem vX11_comeTo_125 {l : Launch} {G : pG} {bg : Nat × Nat} {n : Nat} {K : Int → Nat × Nat} {F E : Int → Int → Int} {Q : Option pV → pM → Prop} (x0 x1 x3 x4 x5 : Int) (h : (K x0).1 = 11 ∧ (K (F x0 10)).1 = 6 ∧ (K x1).1 = 0 ∧ PC l G 1 mX0_addTuple (0, 0) [(2, x1), (0, x3), (0, x4), (0, x5), (0, F (F x0 10) 12)] (n, K, F, E) (fun r μ => PW l G 31 mX11_comeTo bg 141 [(0, (2, x0))] (r.toList ++ []) μ Q)) : PW l G 31 mX11_comeTo bg 125 [(0, (2, x0)), (1, (2, x1)), (3, (0, x3)), (4, (0, x4)), (5, (0, x5))] [] (n, K, F, E) Q := by
  refine s_aload_n (q := 126) 63 1 rfl rfl ?_
  refine s_iload_n (q := 127) 64 2 rfl rfl ?_
  refine s_iload (q := 129) 65 3 rfl rfl ?_
  refine s_iload (q := 131) 66 4 rfl rfl ?_
  refine s_aload_n (q := 132) 67 0 rfl rfl ?_
  obtain ⟨c1, h⟩ := h
  refine n_getf (q := 135) (jj := 10) 68 11 10 rfl kX11_69 c1 ?_
  obtain ⟨c2, h⟩ := h
  refine n_getf (q := 138) (jj := 12) 69 6 12 rfl kX11_278 c2 ?_
  obtain ⟨c3, h⟩ := h
  refine PW.pick [0] rfl ?_
  exact n_callV (N := mX0_addTuple) (as := [(0, x3), (0, x4), (0, x5), (0, F (F x0 10) 12)]) (st := []) (q := 141) (d' := 1) 70 rfl uX0_addTuple kX11_361 rfl c3 h
theorem vX11_comeTo_141 {l : Launch} {G : pG} {bg : Nat × Nat} {n : Nat} {K : Int → Nat × Nat} {F E : Int → Int → Int} {Q : Option pV → pM → Prop} (x0 : Int) (h : (K x0).1 = 11 ∧ (K (F x0 10)).1 = 6 ∧ Q (some (0, F (F x0 10) 12)) (n, K, F, E)) : PW l G 31 mX11_comeTo bg 141 [(0, (2, x0))] [] (n, K, F, E) Q := by
  refine s_aload_n (q := 142) 71 0 rfl rfl ?_
  obtain ⟨c1, h⟩ := h
  refine n_getf (q := 145) (jj := 10) 72 11 10 rfl kX11_69 c1 ?_
  obtain ⟨c2, h⟩ := h
  refine n_getf (q := 148) (jj := 12) 73 6 12 rfl kX11_278 c2 ?_
  exact s_iret 74 rfl rfl h
theorem vX11_strikeOut_0 {l : Launch} {G : pG} {bg : Nat × Nat} {n : Nat} {K : Int → Nat × Nat} {F E : Int → Int → Int} {Q : Option pV → pM → Prop} (x0 x1 : Int) (h : (K x0).1 = 11 ∧ (K (F x0 0)).1 = 1 ∧ (K (F (F x0 0) 0)).1 = 0 ∧ (K (F (F (F x0 0) 0) 0)).1 = 20 ∧ ((0 : Int) ≤ 0 ∧ 0 < ((K (F (F (F x0 0) 0) 0)).2 : Int)) ∧ ((0 ≤ x1 ∧ x1 < E (F (F (F x0 0) 0) 0) 0 → (K (F x0 3)).1 = 3 ∧ PC l G 0 mX3_push (0, 0) [(2, F x0 3), (0, 2), (2, F (F x0 0) 0)] (n, K, F, E) (fun r μ => PW l G 1 mX11_strikeOut bg 32 [(0, (2, x0)), (1, (0, x1))] (r.toList ++ []) μ Q)) ∧ (¬ (0 ≤ x1 ∧ x1 < E (F (F (F x0 0) 0) 0) 0) → Q (some (0, (-2))) (n, K, F, E)))) : PW l G 1 mX11_strikeOut bg 0 [(0, (2, x0)), (1, (0, x1))] [] (n, K, F, E) Q := by
  refine s_aload_n (q := 1) 0 0 rfl rfl ?_
  obtain ⟨c1, h⟩ := h
  refine n_getf (q := 4) (jj := 0) 1 11 0 rfl kX11_10 c1 ?_
  obtain ⟨c2, h⟩ := h
  refine n_getf (q := 7) (jj := 0) 2 1 0 rfl kX11_125 c2 ?_
  refine s_iload_n (q := 8) 3 1 rfl rfl ?_
  obtain ⟨c3, h⟩ := h
  obtain ⟨c4, h⟩ := h
  obtain ⟨c5, h⟩ := h
  refine n_callV (N := mX0_hasOperator) (as := [(0, x1)]) (st := []) (q := 11) (d' := 0) 4 rfl uX0_hasOperator kX11_128 rfl c3 (pX0_hasOperator c3 c4 c5 ?_)
  show PW l G 1 mX11_strikeOut bg 11 [(0, (2, x0)), (1, (0, x1))] [(0, bI (0 ≤ x1 ∧ x1 < E (F (F (F x0 0) 0) 0) 0))] (n, K, F, E) Q
  refine s_if_ne (q := 14) (tgt := 17) 5 rfl rfl (fun hb => ?_) (fun hb => ?_)
  · have hb := bI_t hb
    have b6 := hb
    replace h := h.1 hb
    refine s_aload_n (q := 18) 8 0 rfl rfl ?_
    refine n_getf (q := 21) (jj := 3) 9 11 3 rfl kX11_27 c1 ?_
    refine s_iconst (q := 22) 10 rfl ?_
    refine s_aload_n (q := 23) 11 0 rfl rfl ?_
    refine n_getf (q := 26) (jj := 0) 12 11 0 rfl kX11_10 c1 ?_
    refine n_getf (q := 29) (jj := 0) 13 1 0 rfl kX11_125 c2 ?_
    obtain ⟨c7, h⟩ := h
    refine PW.pick [0, 1] rfl ?_
    exact n_callV (N := mX3_push) (as := [(0, 2), (2, F (F x0 0) 0)]) (st := []) (q := 32) (d' := 0) 14 rfl uX3_push kX11_329 rfl c7 h
  · have hb := bI_f2 hb
    have b6 := hb
    replace h := h.2 hb
    refine s_bipush (q := 16) 6 rfl ?_
    exact s_iret 7 rfl rfl h
theorem vX11_strikeOut_32 {l : Launch} {G : pG} {bg : Nat × Nat} {n : Nat} {K : Int → Nat × Nat} {F E : Int → Int → Int} {Q : Option pV → pM → Prop} (x0 x1 : Int) (h : (K x0).1 = 11 ∧ (K (F x0 0)).1 = 1 ∧ (K (F (F x0 0) 0)).1 = 0 ∧ PC l G 0 mX0_removeOperator (0, 0) [(2, F (F x0 0) 0), (0, x1)] (n, K, F, E) (fun r μ => PW l G 1 mX11_strikeOut bg 43 [] (r.toList ++ []) μ Q)) : PW l G 1 mX11_strikeOut bg 32 [(0, (2, x0)), (1, (0, x1))] [] (n, K, F, E) Q := by
  refine s_aload_n (q := 33) 15 0 rfl rfl ?_
  obtain ⟨c1, h⟩ := h
  refine n_getf (q := 36) (jj := 0) 16 11 0 rfl kX11_10 c1 ?_
  obtain ⟨c2, h⟩ := h
  refine n_getf (q := 39) (jj := 0) 17 1 0 rfl kX11_125 c2 ?_
  refine s_iload_n (q := 40) 18 1 rfl rfl ?_
  obtain ⟨c3, h⟩ := h
  refine PW.pick [] rfl ?_
  exact n_callV (N := mX0_removeOperator) (as := [(0, x1)]) (st := []) (q := 43) (d' := 0) 19 rfl uX0_removeOperator kX11_365 rfl c3 h
theorem vX11_strikeOut_43 {l : Launch} {G : pG} {bg : Nat × Nat} {n : Nat} {K : Int → Nat × Nat} {F E : Int → Int → Int} {Q : Option pV → pM → Prop} (s0 : Int) (h : Q (some (0, s0)) (n, K, F, E)) : PW l G 1 mX11_strikeOut bg 43 [] [(0, s0)] (n, K, F, E) Q := by
  exact s_iret 20 rfl rfl h
theorem vX11_changeWindow_0 {l : Launch} {G : pG} {bg : Nat × Nat} {n : Nat} {K : Int → Nat × Nat} {F E : Int → Int → Int} {Q : Option pV → pM → Prop} (x0 x1 x2 : Int) (h : ((¬ (0 ≤ x1 ∧ x1 < 3) → Q (some (0, (-1))) (n, K, F, E)) ∧ (0 ≤ x1 ∧ x1 < 3 → ((x2 < 1 → Q (some (0, (-1))) (n, K, F, E)) ∧ (¬ (x2 < 1) → ((x2 ≤ 9 → (K x0).1 = 11 ∧ (K (F x0 0)).1 = 1 ∧ (K (F (F x0 0) 0)).1 = 0 ∧ (-2147483648 ≤ 3 + x1 ∧ 3 + x1 < 2147483648) ∧ (K (F (F (F x0 0) 0) 0)).1 = 20 ∧ ((0 : Int) ≤ 3 + x1 ∧ 3 + x1 < ((K (F (F (F x0 0) 0) 0)).2 : Int)) ∧ ((¬ (E (F (F (F x0 0) 0) 0) (3 + x1)) = x2 → (K (F x0 3)).1 = 3 ∧ PC l G 0 mX3_push (0, 0) [(2, F x0 3), (0, 3), (2, F (F x0 0) 0)] (n, K, F, E) (fun r μ => PW l G 2 mX11_changeWindow bg 53 [(0, (2, x0)), (1, (0, x1)), (2, (0, x2))] (r.toList ++ []) μ Q)) ∧ ((E (F (F (F x0 0) 0) 0) (3 + x1)) = x2 → Q (some (0, (-3))) (n, K, F, E)))) ∧ (¬ (x2 ≤ 9) → Q (some (0, (-1))) (n, K, F, E)))))))) : PW l G 2 mX11_changeWindow bg 0 [(0, (2, x0)), (1, (0, x1)), (2, (0, x2))] [] (n, K, F, E) Q := by
  refine s_iload_n (q := 1) 0 1 rfl rfl ?_
  refine n_callS (N := mX11_isRelation) (as := [(0, x1)]) (st := []) (q := 4) (d' := 0) 1 rfl uX11_isRelation kX11_107 rfl (pX11_isRelation ?_)
  show PW l G 2 mX11_changeWindow bg 4 [(0, (2, x0)), (1, (0, x1)), (2, (0, x2))] [(0, bI (0 ≤ x1 ∧ x1 < 3))] (n, K, F, E) Q
  refine s_if_eq (q := 7) (tgt := 18) 2 rfl rfl (fun hb => ?_) (fun hb => ?_)
  · have hb := bI_f hb
    have b1 := hb
    replace h := h.1 hb
    refine s_iconst (q := 19) 9 rfl ?_
    exact s_iret 10 rfl rfl h
  · have hb := bI_t hb
    have b1 := hb
    replace h := h.2 hb
    refine s_iload_n (q := 8) 3 2 rfl rfl ?_
    refine s_iconst (q := 9) 4 rfl ?_
    refine s_icmp_lt (q := 12) (tgt := 18) 5 rfl rfl (fun hb => ?_) (fun hb => ?_)
    · skip
      have b2 := hb
      replace h := h.1 hb
      refine s_iconst (q := 19) 9 rfl ?_
      exact s_iret 10 rfl rfl h
    · skip
      have b2 := hb
      replace h := h.2 hb
      refine s_iload_n (q := 13) 6 2 rfl rfl ?_
      refine s_bipush (q := 15) 7 rfl ?_
      refine s_icmp_le (q := 18) (tgt := 20) 8 rfl rfl (fun hb => ?_) (fun hb => ?_)
      · skip
        have b3 := hb
        replace h := h.1 hb
        refine s_aload_n (q := 21) 11 0 rfl rfl ?_
        obtain ⟨c4, h⟩ := h
        refine n_getf (q := 24) (jj := 0) 12 11 0 rfl kX11_10 c4 ?_
        obtain ⟨c5, h⟩ := h
        refine n_getf (q := 27) (jj := 0) 13 1 0 rfl kX11_125 c5 ?_
        refine s_iload_n (q := 28) 14 1 rfl rfl ?_
        obtain ⟨c6, h⟩ := h
        refine n_callV (N := mX0_windowOf) (as := [(0, x1)]) (st := []) (q := 31) (d' := 0) 15 rfl uX0_windowOf kX11_135 rfl c6 ?_
        show PW l G 0 mX0_windowOf (0, 0) 0 [(0, (2, F (F x0 0) 0)), (1, (0, x1))] [] (n, K, F, E) _
        refine s_aload_n (q := 1) 0 0 rfl rfl ?_
        refine n_getf (q := 4) (jj := 0) 1 0 0 rfl kX0_11 c6 ?_
        refine s_iconst (q := 5) 2 rfl ?_
        refine s_iload_n (q := 6) 3 1 rfl rfl ?_
        obtain ⟨c7, h⟩ := h
        refine n_iadd (q := 7) 4 rfl c7 ?_
        obtain ⟨c8, h⟩ := h
        obtain ⟨c9, h⟩ := h
        refine n_iald (q := 8) 5 rfl c8 c9 ?_
        refine s_iret 6 rfl rfl ?_
        show PW l G 2 mX11_changeWindow bg 31 [(0, (2, x0)), (1, (0, x1)), (2, (0, x2))] [(0, E (F (F (F x0 0) 0) 0) (3 + x1))] (n, K, F, E) Q
        refine s_iload_n (q := 32) 16 2 rfl rfl ?_
        refine s_icmp_ne (q := 35) (tgt := 38) 17 rfl rfl (fun hb => ?_) (fun hb => ?_)
        · skip
          have b10 := hb
          replace h := h.1 hb
          refine s_aload_n (q := 39) 20 0 rfl rfl ?_
          refine n_getf (q := 42) (jj := 3) 21 11 3 rfl kX11_27 c4 ?_
          refine s_iconst (q := 43) 22 rfl ?_
          refine s_aload_n (q := 44) 23 0 rfl rfl ?_
          refine n_getf (q := 47) (jj := 0) 24 11 0 rfl kX11_10 c4 ?_
          refine n_getf (q := 50) (jj := 0) 25 1 0 rfl kX11_125 c5 ?_
          obtain ⟨c11, h⟩ := h
          refine PW.pick [0, 1, 2] rfl ?_
          exact n_callV (N := mX3_push) (as := [(0, 3), (2, F (F x0 0) 0)]) (st := []) (q := 53) (d' := 0) 26 rfl uX3_push kX11_329 rfl c11 h
        · have hb := Classical.not_not.mp hb
          have b10 := hb
          replace h := h.2 hb
          refine s_bipush (q := 37) 18 rfl ?_
          exact s_iret 19 rfl rfl h
      · skip
        have b3 := hb
        replace h := h.2 hb
        refine s_iconst (q := 19) 9 rfl ?_
        exact s_iret 10 rfl rfl h
theorem vX11_changeWindow_53 {l : Launch} {G : pG} {bg : Nat × Nat} {n : Nat} {K : Int → Nat × Nat} {F E : Int → Int → Int} {Q : Option pV → pM → Prop} (x0 x1 x2 : Int) (h : (K x0).1 = 11 ∧ (K (F x0 0)).1 = 1 ∧ (K (F (F x0 0) 0)).1 = 0 ∧ PC l G 1 mX0_setWindow (0, 0) [(2, F (F x0 0) 0), (0, x1), (0, x2)] (n, K, F, E) (fun r μ => PW l G 2 mX11_changeWindow bg 65 [] (r.toList ++ []) μ Q)) : PW l G 2 mX11_changeWindow bg 53 [(0, (2, x0)), (1, (0, x1)), (2, (0, x2))] [] (n, K, F, E) Q := by
  refine s_aload_n (q := 54) 27 0 rfl rfl ?_
  obtain ⟨c1, h⟩ := h
  refine n_getf (q := 57) (jj := 0) 28 11 0 rfl kX11_10 c1 ?_
  obtain ⟨c2, h⟩ := h
  refine n_getf (q := 60) (jj := 0) 29 1 0 rfl kX11_125 c2 ?_
  refine s_iload_n (q := 61) 30 1 rfl rfl ?_
  refine s_iload_n (q := 62) 31 2 rfl rfl ?_
  obtain ⟨c3, h⟩ := h
  refine PW.pick [] rfl ?_
  exact n_callV (N := mX0_setWindow) (as := [(0, x1), (0, x2)]) (st := []) (q := 65) (d' := 1) 32 rfl uX0_setWindow kX11_317 rfl c3 h
theorem vX11_changeWindow_65 {l : Launch} {G : pG} {bg : Nat × Nat} {n : Nat} {K : Int → Nat × Nat} {F E : Int → Int → Int} {Q : Option pV → pM → Prop} (s0 : Int) (h : Q (some (0, s0)) (n, K, F, E)) : PW l G 2 mX11_changeWindow bg 65 [] [(0, s0)] (n, K, F, E) Q := by
  exact s_iret 33 rfl rfl h
theorem vX11_changeIndex_0 {l : Launch} {G : pG} {bg : Nat × Nat} {n : Nat} {K : Int → Nat × Nat} {F E : Int → Int → Int} {Q : Option pV → pM → Prop} (x0 x1 x2 : Int) (h : ((¬ (0 ≤ x1 ∧ x1 < 3) → Q (some (0, (-1))) (n, K, F, E)) ∧ (0 ≤ x1 ∧ x1 < 3 → ((x2 < 0 → Q (some (0, (-1))) (n, K, F, E)) ∧ (¬ (x2 < 0) → ((x2 ≤ 2 → (K x0).1 = 11 ∧ (K (F x0 0)).1 = 1 ∧ (K (F (F x0 0) 0)).1 = 0 ∧ (-2147483648 ≤ 6 + x1 ∧ 6 + x1 < 2147483648) ∧ (K (F (F (F x0 0) 0) 0)).1 = 20 ∧ ((0 : Int) ≤ 6 + x1 ∧ 6 + x1 < ((K (F (F (F x0 0) 0) 0)).2 : Int)) ∧ ((¬ (E (F (F (F x0 0) 0) 0) (6 + x1)) = x2 → (K (F x0 3)).1 = 3 ∧ PC l G 0 mX3_push (0, 0) [(2, F x0 3), (0, 4), (2, F (F x0 0) 0)] (n, K, F, E) (fun r μ => PW l G 1 mX11_changeIndex bg 53 [(0, (2, x0)), (1, (0, x1)), (2, (0, x2)), (3, (0, E (F (F (F x0 0) 0) 0) (6 + x1)))] (r.toList ++ []) μ Q)) ∧ ((E (F (F (F x0 0) 0) 0) (6 + x1)) = x2 → Q (some (0, (-3))) (n, K, F, E)))) ∧ (¬ (x2 ≤ 2) → Q (some (0, (-1))) (n, K, F, E)))))))) : PW l G 1 mX11_changeIndex bg 0 [(0, (2, x0)), (1, (0, x1)), (2, (0, x2))] [] (n, K, F, E) Q := by
  refine s_iload_n (q := 1) 0 1 rfl rfl ?_
  refine n_callS (N := mX11_isRelation) (as := [(0, x1)]) (st := []) (q := 4) (d' := 0) 1 rfl uX11_isRelation kX11_107 rfl (pX11_isRelation ?_)
  show PW l G 1 mX11_changeIndex bg 4 [(0, (2, x0)), (1, (0, x1)), (2, (0, x2))] [(0, bI (0 ≤ x1 ∧ x1 < 3))] (n, K, F, E) Q
  refine s_if_eq (q := 7) (tgt := 16) 2 rfl rfl (fun hb => ?_) (fun hb => ?_)
  · have hb := bI_f hb
    have b1 := hb
    replace h := h.1 hb
    refine s_iconst (q := 17) 8 rfl ?_
    exact s_iret 9 rfl rfl h
  · have hb := bI_t hb
    have b1 := hb
    replace h := h.2 hb
    refine s_iload_n (q := 8) 3 2 rfl rfl ?_
    refine s_if_lt (q := 11) (tgt := 16) 4 rfl rfl (fun hb => ?_) (fun hb => ?_)
    · skip
      have b2 := hb
      replace h := h.1 hb
      refine s_iconst (q := 17) 8 rfl ?_
      exact s_iret 9 rfl rfl h
    · skip
      have b2 := hb
      replace h := h.2 hb
      refine s_iload_n (q := 12) 5 2 rfl rfl ?_
      refine s_iconst (q := 13) 6 rfl ?_
      refine s_icmp_le (q := 16) (tgt := 18) 7 rfl rfl (fun hb => ?_) (fun hb => ?_)
      · skip
        have b3 := hb
        replace h := h.1 hb
        refine s_aload_n (q := 19) 10 0 rfl rfl ?_
        obtain ⟨c4, h⟩ := h
        refine n_getf (q := 22) (jj := 0) 11 11 0 rfl kX11_10 c4 ?_
        obtain ⟨c5, h⟩ := h
        refine n_getf (q := 25) (jj := 0) 12 1 0 rfl kX11_125 c5 ?_
        refine s_iload_n (q := 26) 13 1 rfl rfl ?_
        obtain ⟨c6, h⟩ := h
        refine n_callV (N := mX0_indexOn) (as := [(0, x1)]) (st := []) (q := 29) (d' := 0) 14 rfl uX0_indexOn kX11_138 rfl c6 ?_
        show PW l G 0 mX0_indexOn (0, 0) 0 [(0, (2, F (F x0 0) 0)), (1, (0, x1))] [] (n, K, F, E) _
        refine s_aload_n (q := 1) 0 0 rfl rfl ?_
        refine n_getf (q := 4) (jj := 0) 1 0 0 rfl kX0_11 c6 ?_
        refine s_bipush (q := 6) 2 rfl ?_
        refine s_iload_n (q := 7) 3 1 rfl rfl ?_
        obtain ⟨c7, h⟩ := h
        refine n_iadd (q := 8) 4 rfl c7 ?_
        obtain ⟨c8, h⟩ := h
        obtain ⟨c9, h⟩ := h
        refine n_iald (q := 9) 5 rfl c8 c9 ?_
        refine s_iret 6 rfl rfl ?_
        show PW l G 1 mX11_changeIndex bg 29 [(0, (2, x0)), (1, (0, x1)), (2, (0, x2))] [(0, E (F (F (F x0 0) 0) 0) (6 + x1))] (n, K, F, E) Q
        refine s_istore_n (q := 30) (lv' := [(3, (0, E (F (F (F x0 0) 0) 0) (6 + x1))), (0, (2, x0)), (1, (0, x1)), (2, (0, x2))]) 15 rfl rfl ?_
        refine s_iload_n (q := 31) 16 0 rfl rfl ?_
        refine s_iload_n (q := 32) 17 3 rfl rfl ?_
        refine s_icmp_ne (q := 35) (tgt := 38) 18 rfl rfl (fun hb => ?_) (fun hb => ?_)
        · skip
          have b10 := hb
          replace h := h.1 hb
          refine s_aload_n (q := 39) 21 1 rfl rfl ?_
          refine n_getf (q := 42) (jj := 3) 22 11 3 rfl kX11_27 c4 ?_
          refine s_iconst (q := 43) 23 rfl ?_
          refine s_aload_n (q := 44) 24 1 rfl rfl ?_
          refine n_getf (q := 47) (jj := 0) 25 11 0 rfl kX11_10 c4 ?_
          refine n_getf (q := 50) (jj := 0) 26 1 0 rfl kX11_125 c5 ?_
          obtain ⟨c11, h⟩ := h
          refine PW.pick [1, 2, 3, 0] rfl ?_
          exact n_callV (N := mX3_push) (as := [(0, 4), (2, F (F x0 0) 0)]) (st := []) (q := 53) (d' := 0) 27 rfl uX3_push kX11_329 rfl c11 h
        · have hb := Classical.not_not.mp hb
          have b10 := hb
          replace h := h.2 hb
          refine s_bipush (q := 37) 19 rfl ?_
          exact s_iret 20 rfl rfl h
      · skip
        have b3 := hb
        replace h := h.2 hb
        refine s_iconst (q := 17) 8 rfl ?_
        exact s_iret 9 rfl rfl h
theorem vX11_changeIndex_53 {l : Launch} {G : pG} {bg : Nat × Nat} {n : Nat} {K : Int → Nat × Nat} {F E : Int → Int → Int} {Q : Option pV → pM → Prop} (x0 x1 x2 x3 : Int) (h : (K x0).1 = 11 ∧ (K (F x0 0)).1 = 1 ∧ (K (F (F x0 0) 0)).1 = 0 ∧ (-2147483648 ≤ 6 + x1 ∧ 6 + x1 < 2147483648) ∧ (0 : Int) ≤ F (F (F x0 0) 0) 0 ∧ (K (F (F (F x0 0) 0) 0)).1 = 20 ∧ ((0 : Int) ≤ 6 + x1 ∧ 6 + x1 < ((K (F (F (F x0 0) 0) 0)).2 : Int)) ∧ (∀ E1, E1 = pUp E (F (F (F x0 0) 0) 0) (6 + x1) x2 → Q (some (0, x3)) (n, K, F, E1))) : PW l G 1 mX11_changeIndex bg 53 [(0, (2, x0)), (1, (0, x1)), (2, (0, x2)), (3, (0, x3))] [] (n, K, F, E) Q := by
  refine s_aload_n (q := 54) 28 0 rfl rfl ?_
  obtain ⟨c1, h⟩ := h
  refine n_getf (q := 57) (jj := 0) 29 11 0 rfl kX11_10 c1 ?_
  obtain ⟨c2, h⟩ := h
  refine n_getf (q := 60) (jj := 0) 30 1 0 rfl kX11_125 c2 ?_
  refine s_iload_n (q := 61) 31 1 rfl rfl ?_
  refine s_iload_n (q := 62) 32 2 rfl rfl ?_
  obtain ⟨c3, h⟩ := h
  refine n_callV (N := mX0_setIndex) (as := [(0, x1), (0, x2)]) (st := []) (q := 65) (d' := 0) 33 rfl uX0_setIndex kX11_287 rfl c3 ?_
  show PW l G 0 mX0_setIndex (0, 0) 0 [(0, (2, F (F x0 0) 0)), (1, (0, x1)), (2, (0, x2))] [] (n, K, F, E) _
  refine s_aload_n (q := 1) 0 0 rfl rfl ?_
  refine n_getf (q := 4) (jj := 0) 1 0 0 rfl kX0_11 c3 ?_
  refine s_bipush (q := 6) 2 rfl ?_
  refine s_iload_n (q := 7) 3 1 rfl rfl ?_
  obtain ⟨c4, h⟩ := h
  refine n_iadd (q := 8) 4 rfl c4 ?_
  refine s_iload_n (q := 9) 5 2 rfl rfl ?_
  obtain ⟨c5, h⟩ := h
  obtain ⟨c6, h⟩ := h
  obtain ⟨c7, h⟩ := h
  refine n_iast (q := 10) 6 rfl c5 c6 c7 ?_
  refine PW.nameE (fun E1 eE1 => ?_)
  replace h := h E1 eE1
  refine s_vret 7 rfl rfl ?_
  show PW l G 1 mX11_changeIndex bg 65 [(0, (2, x0)), (1, (0, x1)), (2, (0, x2)), (3, (0, x3))] [] (n, K, F, E1) Q
  refine s_iload_n (q := 66) 34 3 rfl rfl ?_
  exact s_iret 35 rfl rfl h
