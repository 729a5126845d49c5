theorem vX11_join_0 {l : Launch} {G : pG} {bg : Nat × Nat} {n : Nat} {K : Int → Nat × Nat} {F E : Int → Int → Int} {Q : Option pV → pM → Prop} (x0 x1 x2 x3 x4 : Int) (h : ((¬ (0 ≤ x1 ∧ x1 < 3) → (K x0).1 = 11 ∧ (∀ F1, F1 = pUp F x0 16 (-1) → (K (F x0 13)).1 = 20 ∧ ((0 : Int) ≤ 0 ∧ 0 < ((K (F x0 13)).2 : Int)) ∧ (0 : Int) ≤ F x0 13 ∧ (∀ E2, E2 = pUp E (F x0 13) 0 (w32 ((E (F x0 13) 0) + 1)) → Q (some (0, (-1))) (n, K, F1, E2)))) ∧ (0 ≤ x1 ∧ x1 < 3 → ((¬ (0 ≤ x2 ∧ x2 < 2) → (K x0).1 = 11 ∧ (∀ F3, F3 = pUp F x0 16 (-1) → (K (F x0 13)).1 = 20 ∧ ((0 : Int) ≤ 0 ∧ 0 < ((K (F x0 13)).2 : Int)) ∧ (0 : Int) ≤ F x0 13 ∧ (∀ E4, E4 = pUp E (F x0 13) 0 (w32 ((E (F x0 13) 0) + 1)) → Q (some (0, (-1))) (n, K, F3, E4)))) ∧ (0 ≤ x2 ∧ x2 < 2 → ((¬ (0 ≤ x3 ∧ x3 < 3) → (K x0).1 = 11 ∧ (∀ F5, F5 = pUp F x0 16 (-1) → (K (F x0 13)).1 = 20 ∧ ((0 : Int) ≤ 0 ∧ 0 < ((K (F x0 13)).2 : Int)) ∧ (0 : Int) ≤ F x0 13 ∧ (∀ E6, E6 = pUp E (F x0 13) 0 (w32 ((E (F x0 13) 0) + 1)) → Q (some (0, (-1))) (n, K, F5, E6)))) ∧ (0 ≤ x3 ∧ x3 < 3 → ((¬ (0 ≤ x4 ∧ x4 < 2) → (K x0).1 = 11 ∧ (∀ F7, F7 = pUp F x0 16 (-1) → (K (F x0 13)).1 = 20 ∧ ((0 : Int) ≤ 0 ∧ 0 < ((K (F x0 13)).2 : Int)) ∧ (0 : Int) ≤ F x0 13 ∧ (∀ E8, E8 = pUp E (F x0 13) 0 (w32 ((E (F x0 13) 0) + 1)) → Q (some (0, (-1))) (n, K, F7, E8)))) ∧ (0 ≤ x4 ∧ x4 < 2 → ((¬ x1 = x3 → (K x0).1 = 11 ∧ PC l G 1 mX11_tell (0, 0) [(2, x0), (0, 0), (0, x1), (0, x2), (0, x3), (0, x4)] (n, K, F, E) (fun r μ => PW l G 2 mX11_join bg 50 [] (r.toList ++ []) μ Q)) ∧ (x1 = x3 → (K x0).1 = 11 ∧ (∀ F9, F9 = pUp F x0 16 (-1) → (K (F x0 13)).1 = 20 ∧ ((0 : Int) ≤ 0 ∧ 0 < ((K (F x0 13)).2 : Int)) ∧ (0 : Int) ≤ F x0 13 ∧ (∀ E10, E10 = pUp E (F x0 13) 0 (w32 ((E (F x0 13) 0) + 1)) → Q (some (0, (-1))) (n, K, F9, E10)))))))))))))) : PW l G 2 mX11_join bg 0 [(0, (2, x0)), (1, (0, x1)), (2, (0, x2)), (3, (0, x3)), (4, (0, x4))] [] (n, K, F, E) Q := by
  refine s_iload_n (q := 1) 0 1 rfl rfl ?_
  refine n_callS (N := mX11_isRelation) (as := [(0, x1)]) (st := []) (q := 4) (d' := 0) 1 rfl uX11_isRelation kX11_107 rfl (pX11_isRelation ?_)
  show PW l G 2 mX11_join bg 4 [(0, (2, x0)), (1, (0, x1)), (2, (0, x2)), (3, (0, x3)), (4, (0, x4))] [(0, bI (0 ≤ x1 ∧ x1 < 3))] (n, K, F, E) Q
  refine s_if_eq (q := 7) (tgt := 34) 2 rfl rfl (fun hb => ?_) (fun hb => ?_)
  · have hb := bI_f hb
    have b1 := hb
    replace h := h.1 hb
    refine s_aload_n (q := 35) 15 0 rfl rfl ?_
    refine s_iconst (q := 36) 16 rfl ?_
    obtain ⟨c2, h⟩ := h
    refine n_callV (N := mX11_refuse) (as := [(0, (-1))]) (st := []) (q := 39) (d' := 0) 17 rfl uX11_refuse kX11_114 rfl c2 ?_
    show PW l G 0 mX11_refuse (0, 0) 0 [(0, (2, x0)), (1, (0, (-1)))] [] (n, K, F, E) _
    refine s_aload_n (q := 1) 0 0 rfl rfl ?_
    refine s_iload_n (q := 2) 1 1 rfl rfl ?_
    refine n_putf (q := 5) (jj := 16) 2 11 16 rfl kX11_97 c2 (Or.inl rfl) ?_
    refine PW.nameF (fun F1 eF1 => ?_)
    replace h := h F1 eF1
    refine s_iload_n (q := 6) 3 1 rfl rfl ?_
    refine s_bipush (q := 8) 4 rfl ?_
    refine s_icmp_lt (q := 11) (tgt := 18) 5 rfl rfl (fun hb => absurd hb (by decide)) (fun _ => ?_)
    refine s_iload_n (q := 12) 6 1 rfl rfl ?_
    refine n_ineg (q := 13) 7 rfl (by decide) ?_
    refine PW.top (b := 1) (by decide) ?_
    refine s_iconst (q := 14) 8 rfl ?_
    refine n_isub (q := 15) 9 rfl (by decide) ?_
    refine PW.top (b := 0) (by decide) ?_
    refine s_goto (tgt := 22) 10 rfl rfl ?_
    refine s_istore_n (q := 23) (lv' := [(2, (0, 0)), (0, (2, x0)), (1, (0, (-1)))]) 15 rfl rfl ?_
    refine s_iload_n (q := 24) 16 0 rfl rfl ?_
    refine s_if_lt (q := 27) (tgt := 42) 17 rfl rfl (fun hb => absurd hb (by decide)) (fun _ => ?_)
    refine s_iload_n (q := 28) 18 0 rfl rfl ?_
    refine s_iconst (q := 29) 19 rfl ?_
    refine s_icmp_ge (q := 32) (tgt := 42) 20 rfl rfl (fun hb => absurd hb (by decide)) (fun _ => ?_)
    refine s_aload_n (q := 33) 21 1 rfl rfl ?_
    refine n_getf (q := 36) (jj := 13) 22 11 13 rfl kX11_87 c2 ?_
    refine PW.top (b := F x0 13) (by exact (congrFun (congrFun eF1 _) _).trans (pUp_k (by decide))) ?_
    refine s_iload_n (q := 37) 23 0 rfl rfl ?_
    refine s_dup2 (q := 38) 24 rfl ?_
    obtain ⟨c3, h⟩ := h
    obtain ⟨c4, h⟩ := h
    refine n_iald (q := 39) 25 rfl c3 c4 ?_
    refine s_iconst (q := 40) 26 rfl ?_
    refine s_iadd (q := 41) 27 rfl ?_
    obtain ⟨c5, h⟩ := h
    refine n_iast (q := 42) 28 rfl c5 c3 c4 ?_
    refine PW.nameE (fun E2 eE2 => ?_)
    replace h := h E2 eE2
    refine s_iload_n (q := 43) 29 2 rfl rfl ?_
    refine s_iret 30 rfl rfl ?_
    show PW l G 2 mX11_join bg 39 [(0, (2, x0)), (1, (0, x1)), (2, (0, x2)), (3, (0, x3)), (4, (0, x4))] [(0, (-1))] (n, K, F1, E2) Q
    exact s_iret 18 rfl rfl h
  · have hb := bI_t hb
    have b1 := hb
    replace h := h.2 hb
    refine s_iload_n (q := 8) 3 2 rfl rfl ?_
    refine n_callS (N := mX11_isField) (as := [(0, x2)]) (st := []) (q := 11) (d' := 0) 4 rfl uX11_isField kX11_111 rfl (pX11_isField ?_)
    show PW l G 2 mX11_join bg 11 [(0, (2, x0)), (1, (0, x1)), (2, (0, x2)), (3, (0, x3)), (4, (0, x4))] [(0, bI (0 ≤ x2 ∧ x2 < 2))] (n, K, F, E) Q
    refine s_if_eq (q := 14) (tgt := 34) 5 rfl rfl (fun hb => ?_) (fun hb => ?_)
    · have hb := bI_f hb
      have b6 := hb
      replace h := h.1 hb
      refine s_aload_n (q := 35) 15 0 rfl rfl ?_
      refine s_iconst (q := 36) 16 rfl ?_
      obtain ⟨c7, h⟩ := h
      refine n_callV (N := mX11_refuse) (as := [(0, (-1))]) (st := []) (q := 39) (d' := 0) 17 rfl uX11_refuse kX11_114 rfl c7 ?_
      show PW l G 0 mX11_refuse (0, 0) 0 [(0, (2, x0)), (1, (0, (-1)))] [] (n, K, F, E) _
      refine s_aload_n (q := 1) 0 0 rfl rfl ?_
      refine s_iload_n (q := 2) 1 1 rfl rfl ?_
      refine n_putf (q := 5) (jj := 16) 2 11 16 rfl kX11_97 c7 (Or.inl rfl) ?_
      refine PW.nameF (fun F3 eF3 => ?_)
      replace h := h F3 eF3
      refine s_iload_n (q := 6) 3 1 rfl rfl ?_
      refine s_bipush (q := 8) 4 rfl ?_
      refine s_icmp_lt (q := 11) (tgt := 18) 5 rfl rfl (fun hb => absurd hb (by decide)) (fun _ => ?_)
      refine s_iload_n (q := 12) 6 1 rfl rfl ?_
      refine n_ineg (q := 13) 7 rfl (by decide) ?_
      refine PW.top (b := 1) (by decide) ?_
      refine s_iconst (q := 14) 8 rfl ?_
      refine n_isub (q := 15) 9 rfl (by decide) ?_
      refine PW.top (b := 0) (by decide) ?_
      refine s_goto (tgt := 22) 10 rfl rfl ?_
      refine s_istore_n (q := 23) (lv' := [(2, (0, 0)), (0, (2, x0)), (1, (0, (-1)))]) 15 rfl rfl ?_
      refine s_iload_n (q := 24) 16 0 rfl rfl ?_
      refine s_if_lt (q := 27) (tgt := 42) 17 rfl rfl (fun hb => absurd hb (by decide)) (fun _ => ?_)
      refine s_iload_n (q := 28) 18 0 rfl rfl ?_
      refine s_iconst (q := 29) 19 rfl ?_
      refine s_icmp_ge (q := 32) (tgt := 42) 20 rfl rfl (fun hb => absurd hb (by decide)) (fun _ => ?_)
      refine s_aload_n (q := 33) 21 1 rfl rfl ?_
      refine n_getf (q := 36) (jj := 13) 22 11 13 rfl kX11_87 c7 ?_
      refine PW.top (b := F x0 13) (by exact (congrFun (congrFun eF3 _) _).trans (pUp_k (by decide))) ?_
      refine s_iload_n (q := 37) 23 0 rfl rfl ?_
      refine s_dup2 (q := 38) 24 rfl ?_
      obtain ⟨c8, h⟩ := h
      obtain ⟨c9, h⟩ := h
      refine n_iald (q := 39) 25 rfl c8 c9 ?_
      refine s_iconst (q := 40) 26 rfl ?_
      refine s_iadd (q := 41) 27 rfl ?_
      obtain ⟨c10, h⟩ := h
      refine n_iast (q := 42) 28 rfl c10 c8 c9 ?_
      refine PW.nameE (fun E4 eE4 => ?_)
      replace h := h E4 eE4
      refine s_iload_n (q := 43) 29 2 rfl rfl ?_
      refine s_iret 30 rfl rfl ?_
      show PW l G 2 mX11_join bg 39 [(0, (2, x0)), (1, (0, x1)), (2, (0, x2)), (3, (0, x3)), (4, (0, x4))] [(0, (-1))] (n, K, F3, E4) Q
      exact s_iret 18 rfl rfl h
    · have hb := bI_t hb
      have b6 := hb
      replace h := h.2 hb
      refine s_iload_n (q := 15) 6 3 rfl rfl ?_
      refine n_callS (N := mX11_isRelation) (as := [(0, x3)]) (st := []) (q := 18) (d' := 0) 7 rfl uX11_isRelation kX11_107 rfl (pX11_isRelation ?_)
      show PW l G 2 mX11_join bg 18 [(0, (2, x0)), (1, (0, x1)), (2, (0, x2)), (3, (0, x3)), (4, (0, x4))] [(0, bI (0 ≤ x3 ∧ x3 < 3))] (n, K, F, E) Q
      refine s_if_eq (q := 21) (tgt := 34) 8 rfl rfl (fun hb => ?_) (fun hb => ?_)
      · have hb := bI_f hb
        have b11 := hb
        replace h := h.1 hb
        refine s_aload_n (q := 35) 15 0 rfl rfl ?_
        refine s_iconst (q := 36) 16 rfl ?_
        obtain ⟨c12, h⟩ := h
        refine n_callV (N := mX11_refuse) (as := [(0, (-1))]) (st := []) (q := 39) (d' := 0) 17 rfl uX11_refuse kX11_114 rfl c12 ?_
        show PW l G 0 mX11_refuse (0, 0) 0 [(0, (2, x0)), (1, (0, (-1)))] [] (n, K, F, E) _
        refine s_aload_n (q := 1) 0 0 rfl rfl ?_
        refine s_iload_n (q := 2) 1 1 rfl rfl ?_
        refine n_putf (q := 5) (jj := 16) 2 11 16 rfl kX11_97 c12 (Or.inl rfl) ?_
        refine PW.nameF (fun F5 eF5 => ?_)
        replace h := h F5 eF5
        refine s_iload_n (q := 6) 3 1 rfl rfl ?_
        refine s_bipush (q := 8) 4 rfl ?_
        refine s_icmp_lt (q := 11) (tgt := 18) 5 rfl rfl (fun hb => absurd hb (by decide)) (fun _ => ?_)
        refine s_iload_n (q := 12) 6 1 rfl rfl ?_
        refine n_ineg (q := 13) 7 rfl (by decide) ?_
        refine PW.top (b := 1) (by decide) ?_
        refine s_iconst (q := 14) 8 rfl ?_
        refine n_isub (q := 15) 9 rfl (by decide) ?_
        refine PW.top (b := 0) (by decide) ?_
        refine s_goto (tgt := 22) 10 rfl rfl ?_
        refine s_istore_n (q := 23) (lv' := [(2, (0, 0)), (0, (2, x0)), (1, (0, (-1)))]) 15 rfl rfl ?_
        refine s_iload_n (q := 24) 16 0 rfl rfl ?_
        refine s_if_lt (q := 27) (tgt := 42) 17 rfl rfl (fun hb => absurd hb (by decide)) (fun _ => ?_)
        refine s_iload_n (q := 28) 18 0 rfl rfl ?_
        refine s_iconst (q := 29) 19 rfl ?_
        refine s_icmp_ge (q := 32) (tgt := 42) 20 rfl rfl (fun hb => absurd hb (by decide)) (fun _ => ?_)
        refine s_aload_n (q := 33) 21 1 rfl rfl ?_
        refine n_getf (q := 36) (jj := 13) 22 11 13 rfl kX11_87 c12 ?_
        refine PW.top (b := F x0 13) (by exact (congrFun (congrFun eF5 _) _).trans (pUp_k (by decide))) ?_
        refine s_iload_n (q := 37) 23 0 rfl rfl ?_
        refine s_dup2 (q := 38) 24 rfl ?_
        obtain ⟨c13, h⟩ := h
        obtain ⟨c14, h⟩ := h
        refine n_iald (q := 39) 25 rfl c13 c14 ?_
        refine s_iconst (q := 40) 26 rfl ?_
        refine s_iadd (q := 41) 27 rfl ?_
        obtain ⟨c15, h⟩ := h
        refine n_iast (q := 42) 28 rfl c15 c13 c14 ?_
        refine PW.nameE (fun E6 eE6 => ?_)
        replace h := h E6 eE6
        refine s_iload_n (q := 43) 29 2 rfl rfl ?_
        refine s_iret 30 rfl rfl ?_
        show PW l G 2 mX11_join bg 39 [(0, (2, x0)), (1, (0, x1)), (2, (0, x2)), (3, (0, x3)), (4, (0, x4))] [(0, (-1))] (n, K, F5, E6) Q
        exact s_iret 18 rfl rfl h
      · have hb := bI_t hb
        have b11 := hb
        replace h := h.2 hb
        refine s_iload (q := 23) 9 4 rfl rfl ?_
        refine n_callS (N := mX11_isField) (as := [(0, x4)]) (st := []) (q := 26) (d' := 0) 10 rfl uX11_isField kX11_111 rfl (pX11_isField ?_)
        show PW l G 2 mX11_join bg 26 [(0, (2, x0)), (1, (0, x1)), (2, (0, x2)), (3, (0, x3)), (4, (0, x4))] [(0, bI (0 ≤ x4 ∧ x4 < 2))] (n, K, F, E) Q
        refine s_if_eq (q := 29) (tgt := 34) 11 rfl rfl (fun hb => ?_) (fun hb => ?_)
        · have hb := bI_f hb
          have b16 := hb
          replace h := h.1 hb
          refine s_aload_n (q := 35) 15 0 rfl rfl ?_
          refine s_iconst (q := 36) 16 rfl ?_
          obtain ⟨c17, h⟩ := h
          refine n_callV (N := mX11_refuse) (as := [(0, (-1))]) (st := []) (q := 39) (d' := 0) 17 rfl uX11_refuse kX11_114 rfl c17 ?_
          show PW l G 0 mX11_refuse (0, 0) 0 [(0, (2, x0)), (1, (0, (-1)))] [] (n, K, F, E) _
          refine s_aload_n (q := 1) 0 0 rfl rfl ?_
          refine s_iload_n (q := 2) 1 1 rfl rfl ?_
          refine n_putf (q := 5) (jj := 16) 2 11 16 rfl kX11_97 c17 (Or.inl rfl) ?_
          refine PW.nameF (fun F7 eF7 => ?_)
          replace h := h F7 eF7
          refine s_iload_n (q := 6) 3 1 rfl rfl ?_
          refine s_bipush (q := 8) 4 rfl ?_
          refine s_icmp_lt (q := 11) (tgt := 18) 5 rfl rfl (fun hb => absurd hb (by decide)) (fun _ => ?_)
          refine s_iload_n (q := 12) 6 1 rfl rfl ?_
          refine n_ineg (q := 13) 7 rfl (by decide) ?_
          refine PW.top (b := 1) (by decide) ?_
          refine s_iconst (q := 14) 8 rfl ?_
          refine n_isub (q := 15) 9 rfl (by decide) ?_
          refine PW.top (b := 0) (by decide) ?_
          refine s_goto (tgt := 22) 10 rfl rfl ?_
          refine s_istore_n (q := 23) (lv' := [(2, (0, 0)), (0, (2, x0)), (1, (0, (-1)))]) 15 rfl rfl ?_
          refine s_iload_n (q := 24) 16 0 rfl rfl ?_
          refine s_if_lt (q := 27) (tgt := 42) 17 rfl rfl (fun hb => absurd hb (by decide)) (fun _ => ?_)
          refine s_iload_n (q := 28) 18 0 rfl rfl ?_
          refine s_iconst (q := 29) 19 rfl ?_
          refine s_icmp_ge (q := 32) (tgt := 42) 20 rfl rfl (fun hb => absurd hb (by decide)) (fun _ => ?_)
          refine s_aload_n (q := 33) 21 1 rfl rfl ?_
          refine n_getf (q := 36) (jj := 13) 22 11 13 rfl kX11_87 c17 ?_
          refine PW.top (b := F x0 13) (by exact (congrFun (congrFun eF7 _) _).trans (pUp_k (by decide))) ?_
          refine s_iload_n (q := 37) 23 0 rfl rfl ?_
          refine s_dup2 (q := 38) 24 rfl ?_
          obtain ⟨c18, h⟩ := h
          obtain ⟨c19, h⟩ := h
          refine n_iald (q := 39) 25 rfl c18 c19 ?_
          refine s_iconst (q := 40) 26 rfl ?_
          refine s_iadd (q := 41) 27 rfl ?_
          obtain ⟨c20, h⟩ := h
          refine n_iast (q := 42) 28 rfl c20 c18 c19 ?_
          refine PW.nameE (fun E8 eE8 => ?_)
          replace h := h E8 eE8
          refine s_iload_n (q := 43) 29 2 rfl rfl ?_
          refine s_iret 30 rfl rfl ?_
          show PW l G 2 mX11_join bg 39 [(0, (2, x0)), (1, (0, x1)), (2, (0, x2)), (3, (0, x3)), (4, (0, x4))] [(0, (-1))] (n, K, F7, E8) Q
          exact s_iret 18 rfl rfl h
        · have hb := bI_t hb
          have b16 := hb
          replace h := h.2 hb
          refine s_iload_n (q := 30) 12 1 rfl rfl ?_
          refine s_iload_n (q := 31) 13 3 rfl rfl ?_
          refine s_icmp_ne (q := 34) (tgt := 40) 14 rfl rfl (fun hb => ?_) (fun hb => ?_)
          · skip
            have b21 := hb
            replace h := h.1 hb
            refine s_aload_n (q := 41) 19 0 rfl rfl ?_
            refine s_iconst (q := 42) 20 rfl ?_
            refine s_iload_n (q := 43) 21 1 rfl rfl ?_
            refine s_iload_n (q := 44) 22 2 rfl rfl ?_
            refine s_iload_n (q := 45) 23 3 rfl rfl ?_
            refine s_iload (q := 47) 24 4 rfl rfl ?_
            obtain ⟨c22, h⟩ := h
            refine PW.pick [] rfl ?_
            exact n_callV (N := mX11_tell) (as := [(0, 0), (0, x1), (0, x2), (0, x3), (0, x4)]) (st := []) (q := 50) (d' := 1) 25 rfl uX11_tell kX11_118 rfl c22 h
          · have hb := Classical.not_not.mp hb
            have b21 := hb
            replace h := h.2 hb
            refine s_aload_n (q := 35) 15 0 rfl rfl ?_
            refine s_iconst (q := 36) 16 rfl ?_
            obtain ⟨c23, h⟩ := h
            refine n_callV (N := mX11_refuse) (as := [(0, (-1))]) (st := []) (q := 39) (d' := 0) 17 rfl uX11_refuse kX11_114 rfl c23 ?_
            show PW l G 0 mX11_refuse (0, 0) 0 [(0, (2, x0)), (1, (0, (-1)))] [] (n, K, F, E) _
            refine s_aload_n (q := 1) 0 0 rfl rfl ?_
            refine s_iload_n (q := 2) 1 1 rfl rfl ?_
            refine n_putf (q := 5) (jj := 16) 2 11 16 rfl kX11_97 c23 (Or.inl rfl) ?_
            refine PW.nameF (fun F9 eF9 => ?_)
            replace h := h F9 eF9
            refine s_iload_n (q := 6) 3 1 rfl rfl ?_
            refine s_bipush (q := 8) 4 rfl ?_
            refine s_icmp_lt (q := 11) (tgt := 18) 5 rfl rfl (fun hb => absurd hb (by decide)) (fun _ => ?_)
            refine s_iload_n (q := 12) 6 1 rfl rfl ?_
            refine n_ineg (q := 13) 7 rfl (by decide) ?_
            refine PW.top (b := 1) (by decide) ?_
            refine s_iconst (q := 14) 8 rfl ?_
            refine n_isub (q := 15) 9 rfl (by decide) ?_
            refine PW.top (b := 0) (by decide) ?_
            refine s_goto (tgt := 22) 10 rfl rfl ?_
            refine s_istore_n (q := 23) (lv' := [(2, (0, 0)), (0, (2, x0)), (1, (0, (-1)))]) 15 rfl rfl ?_
            refine s_iload_n (q := 24) 16 0 rfl rfl ?_
            refine s_if_lt (q := 27) (tgt := 42) 17 rfl rfl (fun hb => absurd hb (by decide)) (fun _ => ?_)
            refine s_iload_n (q := 28) 18 0 rfl rfl ?_
            refine s_iconst (q := 29) 19 rfl ?_
            refine s_icmp_ge (q := 32) (tgt := 42) 20 rfl rfl (fun hb => absurd hb (by decide)) (fun _ => ?_)
            refine s_aload_n (q := 33) 21 1 rfl rfl ?_
            refine n_getf (q := 36) (jj := 13) 22 11 13 rfl kX11_87 c23 ?_
            refine PW.top (b := F x0 13) (by exact (congrFun (congrFun eF9 _) _).trans (pUp_k (by decide))) ?_
            refine s_iload_n (q := 37) 23 0 rfl rfl ?_
            refine s_dup2 (q := 38) 24 rfl ?_
            obtain ⟨c24, h⟩ := h
            obtain ⟨c25, h⟩ := h
            refine n_iald (q := 39) 25 rfl c24 c25 ?_
            refine s_iconst (q := 40) 26 rfl ?_
            refine s_iadd (q := 41) 27 rfl ?_
            obtain ⟨c26, h⟩ := h
            refine n_iast (q := 42) 28 rfl c26 c24 c25 ?_
            refine PW.nameE (fun E10 eE10 => ?_)
            replace h := h E10 eE10
            refine s_iload_n (q := 43) 29 2 rfl rfl ?_
            refine s_iret 30 rfl rfl ?_
            show PW l G 2 mX11_join bg 39 [(0, (2, x0)), (1, (0, x1)), (2, (0, x2)), (3, (0, x3)), (4, (0, x4))] [(0, (-1))] (n, K, F9, E10) Q
            exact s_iret 18 rfl rfl h
theorem vX11_join_50 {l : Launch} {G : pG} {bg : Nat × Nat} {n : Nat} {K : Int → Nat × Nat} {F E : Int → Int → Int} {Q : Option pV → pM → Prop} (s0 : Int) (h : Q (some (0, s0)) (n, K, F, E)) : PW l G 2 mX11_join bg 50 [] [(0, s0)] (n, K, F, E) Q := by
  exact s_iret 26 rfl rfl h
theorem vX11_filter_0 {l : Launch} {G : pG} {bg : Nat × Nat} {n : Nat} {K : Int → Nat × Nat} {F E : Int → Int → Int} {Q : Option pV → pM → Prop} (x0 x1 x2 x3 x4 : Int) (h : ((¬ (0 ≤ x1 ∧ x1 < 3) → (K x0).1 = 11 ∧ (∀ F1, F1 = pUp F x0 16 (-1) → (K (F x0 13)).1 = 20 ∧ ((0 : Int) ≤ 0 ∧ 0 < ((K (F x0 13)).2 : Int)) ∧ (0 : Int) ≤ F x0 13 ∧ (∀ E2, E2 = pUp E (F x0 13) 0 (w32 ((E (F x0 13) 0) + 1)) → Q (some (0, (-1))) (n, K, F1, E2)))) ∧ (0 ≤ x1 ∧ x1 < 3 → ((¬ (0 ≤ x2 ∧ x2 < 2) → (K x0).1 = 11 ∧ (∀ F3, F3 = pUp F x0 16 (-1) → (K (F x0 13)).1 = 20 ∧ ((0 : Int) ≤ 0 ∧ 0 < ((K (F x0 13)).2 : Int)) ∧ (0 : Int) ≤ F x0 13 ∧ (∀ E4, E4 = pUp E (F x0 13) 0 (w32 ((E (F x0 13) 0) + 1)) → Q (some (0, (-1))) (n, K, F3, E4)))) ∧ (0 ≤ x2 ∧ x2 < 2 → ((x3 < 0 → (K x0).1 = 11 ∧ (∀ F5, F5 = pUp F x0 16 (-1) → (K (F x0 13)).1 = 20 ∧ ((0 : Int) ≤ 0 ∧ 0 < ((K (F x0 13)).2 : Int)) ∧ (0 : Int) ≤ F x0 13 ∧ (∀ E6, E6 = pUp E (F x0 13) 0 (w32 ((E (F x0 13) 0) + 1)) → Q (some (0, (-1))) (n, K, F5, E6)))) ∧ (¬ (x3 < 0) → ((3 ≤ x3 → (K x0).1 = 11 ∧ (∀ F7, F7 = pUp F x0 16 (-1) → (K (F x0 13)).1 = 20 ∧ ((0 : Int) ≤ 0 ∧ 0 < ((K (F x0 13)).2 : Int)) ∧ (0 : Int) ≤ F x0 13 ∧ (∀ E8, E8 = pUp E (F x0 13) 0 (w32 ((E (F x0 13) 0) + 1)) → Q (some (0, (-1))) (n, K, F7, E8)))) ∧ (¬ (3 ≤ x3) → ((0 ≤ x4 ∧ x4 < 10 → (K x0).1 = 11 ∧ PC l G 1 mX11_tell (0, 0) [(2, x0), (0, 1), (0, x1), (0, x2), (0, x3), (0, x4)] (n, K, F, E) (fun r μ => PW l G 2 mX11_filter bg 47 [] (r.toList ++ []) μ Q)) ∧ (¬ (0 ≤ x4 ∧ x4 < 10) → (K x0).1 = 11 ∧ (∀ F9, F9 = pUp F x0 16 (-1) → (K (F x0 13)).1 = 20 ∧ ((0 : Int) ≤ 0 ∧ 0 < ((K (F x0 13)).2 : Int)) ∧ (0 : Int) ≤ F x0 13 ∧ (∀ E10, E10 = pUp E (F x0 13) 0 (w32 ((E (F x0 13) 0) + 1)) → Q (some (0, (-1))) (n, K, F9, E10)))))))))))))) : PW l G 2 mX11_filter bg 0 [(0, (2, x0)), (1, (0, x1)), (2, (0, x2)), (3, (0, x3)), (4, (0, x4))] [] (n, K, F, E) Q := by
  refine s_iload_n (q := 1) 0 1 rfl rfl ?_
  refine n_callS (N := mX11_isRelation) (as := [(0, x1)]) (st := []) (q := 4) (d' := 0) 1 rfl uX11_isRelation kX11_107 rfl (pX11_isRelation ?_)
  show PW l G 2 mX11_filter bg 4 [(0, (2, x0)), (1, (0, x1)), (2, (0, x2)), (3, (0, x3)), (4, (0, x4))] [(0, bI (0 ≤ x1 ∧ x1 < 3))] (n, K, F, E) Q
  refine s_if_eq (q := 7) (tgt := 31) 2 rfl rfl (fun hb => ?_) (fun hb => ?_)
  · have hb := bI_f hb
    have b1 := hb
    replace h := h.1 hb
    refine s_aload_n (q := 32) 14 0 rfl rfl ?_
    refine s_iconst (q := 33) 15 rfl ?_
    obtain ⟨c2, h⟩ := h
    refine n_callV (N := mX11_refuse) (as := [(0, (-1))]) (st := []) (q := 36) (d' := 0) 16 rfl uX11_refuse kX11_114 rfl c2 ?_
    show PW l G 0 mX11_refuse (0, 0) 0 [(0, (2, x0)), (1, (0, (-1)))] [] (n, K, F, E) _
    refine s_aload_n (q := 1) 0 0 rfl rfl ?_
    refine s_iload_n (q := 2) 1 1 rfl rfl ?_
    refine n_putf (q := 5) (jj := 16) 2 11 16 rfl kX11_97 c2 (Or.inl rfl) ?_
    refine PW.nameF (fun F1 eF1 => ?_)
    replace h := h F1 eF1
    refine s_iload_n (q := 6) 3 1 rfl rfl ?_
    refine s_bipush (q := 8) 4 rfl ?_
    refine s_icmp_lt (q := 11) (tgt := 18) 5 rfl rfl (fun hb => absurd hb (by decide)) (fun _ => ?_)
    refine s_iload_n (q := 12) 6 1 rfl rfl ?_
    refine n_ineg (q := 13) 7 rfl (by decide) ?_
    refine PW.top (b := 1) (by decide) ?_
    refine s_iconst (q := 14) 8 rfl ?_
    refine n_isub (q := 15) 9 rfl (by decide) ?_
    refine PW.top (b := 0) (by decide) ?_
    refine s_goto (tgt := 22) 10 rfl rfl ?_
    refine s_istore_n (q := 23) (lv' := [(2, (0, 0)), (0, (2, x0)), (1, (0, (-1)))]) 15 rfl rfl ?_
    refine s_iload_n (q := 24) 16 0 rfl rfl ?_
    refine s_if_lt (q := 27) (tgt := 42) 17 rfl rfl (fun hb => absurd hb (by decide)) (fun _ => ?_)
    refine s_iload_n (q := 28) 18 0 rfl rfl ?_
    refine s_iconst (q := 29) 19 rfl ?_
    refine s_icmp_ge (q := 32) (tgt := 42) 20 rfl rfl (fun hb => absurd hb (by decide)) (fun _ => ?_)
    refine s_aload_n (q := 33) 21 1 rfl rfl ?_
    refine n_getf (q := 36) (jj := 13) 22 11 13 rfl kX11_87 c2 ?_
    refine PW.top (b := F x0 13) (by exact (congrFun (congrFun eF1 _) _).trans (pUp_k (by decide))) ?_
    refine s_iload_n (q := 37) 23 0 rfl rfl ?_
    refine s_dup2 (q := 38) 24 rfl ?_
    obtain ⟨c3, h⟩ := h
    obtain ⟨c4, h⟩ := h
    refine n_iald (q := 39) 25 rfl c3 c4 ?_
    refine s_iconst (q := 40) 26 rfl ?_
    refine s_iadd (q := 41) 27 rfl ?_
    obtain ⟨c5, h⟩ := h
    refine n_iast (q := 42) 28 rfl c5 c3 c4 ?_
    refine PW.nameE (fun E2 eE2 => ?_)
    replace h := h E2 eE2
    refine s_iload_n (q := 43) 29 2 rfl rfl ?_
    refine s_iret 30 rfl rfl ?_
    show PW l G 2 mX11_filter bg 36 [(0, (2, x0)), (1, (0, x1)), (2, (0, x2)), (3, (0, x3)), (4, (0, x4))] [(0, (-1))] (n, K, F1, E2) Q
    exact s_iret 17 rfl rfl h
  · have hb := bI_t hb
    have b1 := hb
    replace h := h.2 hb
    refine s_iload_n (q := 8) 3 2 rfl rfl ?_
    refine n_callS (N := mX11_isField) (as := [(0, x2)]) (st := []) (q := 11) (d' := 0) 4 rfl uX11_isField kX11_111 rfl (pX11_isField ?_)
    show PW l G 2 mX11_filter bg 11 [(0, (2, x0)), (1, (0, x1)), (2, (0, x2)), (3, (0, x3)), (4, (0, x4))] [(0, bI (0 ≤ x2 ∧ x2 < 2))] (n, K, F, E) Q
    refine s_if_eq (q := 14) (tgt := 31) 5 rfl rfl (fun hb => ?_) (fun hb => ?_)
    · have hb := bI_f hb
      have b6 := hb
      replace h := h.1 hb
      refine s_aload_n (q := 32) 14 0 rfl rfl ?_
      refine s_iconst (q := 33) 15 rfl ?_
      obtain ⟨c7, h⟩ := h
      refine n_callV (N := mX11_refuse) (as := [(0, (-1))]) (st := []) (q := 36) (d' := 0) 16 rfl uX11_refuse kX11_114 rfl c7 ?_
      show PW l G 0 mX11_refuse (0, 0) 0 [(0, (2, x0)), (1, (0, (-1)))] [] (n, K, F, E) _
      refine s_aload_n (q := 1) 0 0 rfl rfl ?_
      refine s_iload_n (q := 2) 1 1 rfl rfl ?_
      refine n_putf (q := 5) (jj := 16) 2 11 16 rfl kX11_97 c7 (Or.inl rfl) ?_
      refine PW.nameF (fun F3 eF3 => ?_)
      replace h := h F3 eF3
      refine s_iload_n (q := 6) 3 1 rfl rfl ?_
      refine s_bipush (q := 8) 4 rfl ?_
      refine s_icmp_lt (q := 11) (tgt := 18) 5 rfl rfl (fun hb => absurd hb (by decide)) (fun _ => ?_)
      refine s_iload_n (q := 12) 6 1 rfl rfl ?_
      refine n_ineg (q := 13) 7 rfl (by decide) ?_
      refine PW.top (b := 1) (by decide) ?_
      refine s_iconst (q := 14) 8 rfl ?_
      refine n_isub (q := 15) 9 rfl (by decide) ?_
      refine PW.top (b := 0) (by decide) ?_
      refine s_goto (tgt := 22) 10 rfl rfl ?_
      refine s_istore_n (q := 23) (lv' := [(2, (0, 0)), (0, (2, x0)), (1, (0, (-1)))]) 15 rfl rfl ?_
      refine s_iload_n (q := 24) 16 0 rfl rfl ?_
      refine s_if_lt (q := 27) (tgt := 42) 17 rfl rfl (fun hb => absurd hb (by decide)) (fun _ => ?_)
      refine s_iload_n (q := 28) 18 0 rfl rfl ?_
      refine s_iconst (q := 29) 19 rfl ?_
      refine s_icmp_ge (q := 32) (tgt := 42) 20 rfl rfl (fun hb => absurd hb (by decide)) (fun _ => ?_)
      refine s_aload_n (q := 33) 21 1 rfl rfl ?_
      refine n_getf (q := 36) (jj := 13) 22 11 13 rfl kX11_87 c7 ?_
      refine PW.top (b := F x0 13) (by exact (congrFun (congrFun eF3 _) _).trans (pUp_k (by decide))) ?_
      refine s_iload_n (q := 37) 23 0 rfl rfl ?_
      refine s_dup2 (q := 38) 24 rfl ?_
      obtain ⟨c8, h⟩ := h
      obtain ⟨c9, h⟩ := h
      refine n_iald (q := 39) 25 rfl c8 c9 ?_
      refine s_iconst (q := 40) 26 rfl ?_
      refine s_iadd (q := 41) 27 rfl ?_
      obtain ⟨c10, h⟩ := h
      refine n_iast (q := 42) 28 rfl c10 c8 c9 ?_
      refine PW.nameE (fun E4 eE4 => ?_)
      replace h := h E4 eE4
      refine s_iload_n (q := 43) 29 2 rfl rfl ?_
      refine s_iret 30 rfl rfl ?_
      show PW l G 2 mX11_filter bg 36 [(0, (2, x0)), (1, (0, x1)), (2, (0, x2)), (3, (0, x3)), (4, (0, x4))] [(0, (-1))] (n, K, F3, E4) Q
      exact s_iret 17 rfl rfl h
    · have hb := bI_t hb
      have b6 := hb
      replace h := h.2 hb
      refine s_iload_n (q := 15) 6 3 rfl rfl ?_
      refine s_if_lt (q := 18) (tgt := 31) 7 rfl rfl (fun hb => ?_) (fun hb => ?_)
      · skip
        have b11 := hb
        replace h := h.1 hb
        refine s_aload_n (q := 32) 14 0 rfl rfl ?_
        refine s_iconst (q := 33) 15 rfl ?_
        obtain ⟨c12, h⟩ := h
        refine n_callV (N := mX11_refuse) (as := [(0, (-1))]) (st := []) (q := 36) (d' := 0) 16 rfl uX11_refuse kX11_114 rfl c12 ?_
        show PW l G 0 mX11_refuse (0, 0) 0 [(0, (2, x0)), (1, (0, (-1)))] [] (n, K, F, E) _
        refine s_aload_n (q := 1) 0 0 rfl rfl ?_
        refine s_iload_n (q := 2) 1 1 rfl rfl ?_
        refine n_putf (q := 5) (jj := 16) 2 11 16 rfl kX11_97 c12 (Or.inl rfl) ?_
        refine PW.nameF (fun F5 eF5 => ?_)
        replace h := h F5 eF5
        refine s_iload_n (q := 6) 3 1 rfl rfl ?_
        refine s_bipush (q := 8) 4 rfl ?_
        refine s_icmp_lt (q := 11) (tgt := 18) 5 rfl rfl (fun hb => absurd hb (by decide)) (fun _ => ?_)
        refine s_iload_n (q := 12) 6 1 rfl rfl ?_
        refine n_ineg (q := 13) 7 rfl (by decide) ?_
        refine PW.top (b := 1) (by decide) ?_
        refine s_iconst (q := 14) 8 rfl ?_
        refine n_isub (q := 15) 9 rfl (by decide) ?_
        refine PW.top (b := 0) (by decide) ?_
        refine s_goto (tgt := 22) 10 rfl rfl ?_
        refine s_istore_n (q := 23) (lv' := [(2, (0, 0)), (0, (2, x0)), (1, (0, (-1)))]) 15 rfl rfl ?_
        refine s_iload_n (q := 24) 16 0 rfl rfl ?_
        refine s_if_lt (q := 27) (tgt := 42) 17 rfl rfl (fun hb => absurd hb (by decide)) (fun _ => ?_)
        refine s_iload_n (q := 28) 18 0 rfl rfl ?_
        refine s_iconst (q := 29) 19 rfl ?_
        refine s_icmp_ge (q := 32) (tgt := 42) 20 rfl rfl (fun hb => absurd hb (by decide)) (fun _ => ?_)
        refine s_aload_n (q := 33) 21 1 rfl rfl ?_
        refine n_getf (q := 36) (jj := 13) 22 11 13 rfl kX11_87 c12 ?_
        refine PW.top (b := F x0 13) (by exact (congrFun (congrFun eF5 _) _).trans (pUp_k (by decide))) ?_
        refine s_iload_n (q := 37) 23 0 rfl rfl ?_
        refine s_dup2 (q := 38) 24 rfl ?_
        obtain ⟨c13, h⟩ := h
        obtain ⟨c14, h⟩ := h
        refine n_iald (q := 39) 25 rfl c13 c14 ?_
        refine s_iconst (q := 40) 26 rfl ?_
        refine s_iadd (q := 41) 27 rfl ?_
        obtain ⟨c15, h⟩ := h
        refine n_iast (q := 42) 28 rfl c15 c13 c14 ?_
        refine PW.nameE (fun E6 eE6 => ?_)
        replace h := h E6 eE6
        refine s_iload_n (q := 43) 29 2 rfl rfl ?_
        refine s_iret 30 rfl rfl ?_
        show PW l G 2 mX11_filter bg 36 [(0, (2, x0)), (1, (0, x1)), (2, (0, x2)), (3, (0, x3)), (4, (0, x4))] [(0, (-1))] (n, K, F5, E6) Q
        exact s_iret 17 rfl rfl h
      · skip
        have b11 := hb
        replace h := h.2 hb
        refine s_iload_n (q := 19) 8 3 rfl rfl ?_
        refine s_iconst (q := 20) 9 rfl ?_
        refine s_icmp_ge (q := 23) (tgt := 31) 10 rfl rfl (fun hb => ?_) (fun hb => ?_)
        · skip
          have b16 := hb
          replace h := h.1 hb
          refine s_aload_n (q := 32) 14 0 rfl rfl ?_
          refine s_iconst (q := 33) 15 rfl ?_
          obtain ⟨c17, h⟩ := h
          refine n_callV (N := mX11_refuse) (as := [(0, (-1))]) (st := []) (q := 36) (d' := 0) 16 rfl uX11_refuse kX11_114 rfl c17 ?_
          show PW l G 0 mX11_refuse (0, 0) 0 [(0, (2, x0)), (1, (0, (-1)))] [] (n, K, F, E) _
          refine s_aload_n (q := 1) 0 0 rfl rfl ?_
          refine s_iload_n (q := 2) 1 1 rfl rfl ?_
          refine n_putf (q := 5) (jj := 16) 2 11 16 rfl kX11_97 c17 (Or.inl rfl) ?_
          refine PW.nameF (fun F7 eF7 => ?_)
          replace h := h F7 eF7
          refine s_iload_n (q := 6) 3 1 rfl rfl ?_
          refine s_bipush (q := 8) 4 rfl ?_
          refine s_icmp_lt (q := 11) (tgt := 18) 5 rfl rfl (fun hb => absurd hb (by decide)) (fun _ => ?_)
          refine s_iload_n (q := 12) 6 1 rfl rfl ?_
          refine n_ineg (q := 13) 7 rfl (by decide) ?_
          refine PW.top (b := 1) (by decide) ?_
          refine s_iconst (q := 14) 8 rfl ?_
          refine n_isub (q := 15) 9 rfl (by decide) ?_
          refine PW.top (b := 0) (by decide) ?_
          refine s_goto (tgt := 22) 10 rfl rfl ?_
          refine s_istore_n (q := 23) (lv' := [(2, (0, 0)), (0, (2, x0)), (1, (0, (-1)))]) 15 rfl rfl ?_
          refine s_iload_n (q := 24) 16 0 rfl rfl ?_
          refine s_if_lt (q := 27) (tgt := 42) 17 rfl rfl (fun hb => absurd hb (by decide)) (fun _ => ?_)
          refine s_iload_n (q := 28) 18 0 rfl rfl ?_
          refine s_iconst (q := 29) 19 rfl ?_
          refine s_icmp_ge (q := 32) (tgt := 42) 20 rfl rfl (fun hb => absurd hb (by decide)) (fun _ => ?_)
          refine s_aload_n (q := 33) 21 1 rfl rfl ?_
          refine n_getf (q := 36) (jj := 13) 22 11 13 rfl kX11_87 c17 ?_
          refine PW.top (b := F x0 13) (by exact (congrFun (congrFun eF7 _) _).trans (pUp_k (by decide))) ?_
          refine s_iload_n (q := 37) 23 0 rfl rfl ?_
          refine s_dup2 (q := 38) 24 rfl ?_
          obtain ⟨c18, h⟩ := h
          obtain ⟨c19, h⟩ := h
          refine n_iald (q := 39) 25 rfl c18 c19 ?_
          refine s_iconst (q := 40) 26 rfl ?_
          refine s_iadd (q := 41) 27 rfl ?_
          obtain ⟨c20, h⟩ := h
          refine n_iast (q := 42) 28 rfl c20 c18 c19 ?_
          refine PW.nameE (fun E8 eE8 => ?_)
          replace h := h E8 eE8
          refine s_iload_n (q := 43) 29 2 rfl rfl ?_
          refine s_iret 30 rfl rfl ?_
          show PW l G 2 mX11_filter bg 36 [(0, (2, x0)), (1, (0, x1)), (2, (0, x2)), (3, (0, x3)), (4, (0, x4))] [(0, (-1))] (n, K, F7, E8) Q
          exact s_iret 17 rfl rfl h
        · skip
          have b16 := hb
          replace h := h.2 hb
          refine s_iload (q := 25) 11 4 rfl rfl ?_
          refine n_callS (N := mX11_isDigit) (as := [(0, x4)]) (st := []) (q := 28) (d' := 0) 12 rfl uX11_isDigit kX11_122 rfl (pX11_isDigit ?_)
          show PW l G 2 mX11_filter bg 28 [(0, (2, x0)), (1, (0, x1)), (2, (0, x2)), (3, (0, x3)), (4, (0, x4))] [(0, bI (0 ≤ x4 ∧ x4 < 10))] (n, K, F, E) Q
          refine s_if_ne (q := 31) (tgt := 37) 13 rfl rfl (fun hb => ?_) (fun hb => ?_)
          · have hb := bI_t hb
            have b21 := hb
            replace h := h.1 hb
            refine s_aload_n (q := 38) 18 0 rfl rfl ?_
            refine s_iconst (q := 39) 19 rfl ?_
            refine s_iload_n (q := 40) 20 1 rfl rfl ?_
            refine s_iload_n (q := 41) 21 2 rfl rfl ?_
            refine s_iload_n (q := 42) 22 3 rfl rfl ?_
            refine s_iload (q := 44) 23 4 rfl rfl ?_
            obtain ⟨c22, h⟩ := h
            refine PW.pick [] rfl ?_
            exact n_callV (N := mX11_tell) (as := [(0, 1), (0, x1), (0, x2), (0, x3), (0, x4)]) (st := []) (q := 47) (d' := 1) 24 rfl uX11_tell kX11_118 rfl c22 h
          · have hb := bI_f2 hb
            have b21 := hb
            replace h := h.2 hb
            refine s_aload_n (q := 32) 14 0 rfl rfl ?_
            refine s_iconst (q := 33) 15 rfl ?_
            obtain ⟨c23, h⟩ := h
            refine n_callV (N := mX11_refuse) (as := [(0, (-1))]) (st := []) (q := 36) (d' := 0) 16 rfl uX11_refuse kX11_114 rfl c23 ?_
            show PW l G 0 mX11_refuse (0, 0) 0 [(0, (2, x0)), (1, (0, (-1)))] [] (n, K, F, E) _
            refine s_aload_n (q := 1) 0 0 rfl rfl ?_
            refine s_iload_n (q := 2) 1 1 rfl rfl ?_
            refine n_putf (q := 5) (jj := 16) 2 11 16 rfl kX11_97 c23 (Or.inl rfl) ?_
            refine PW.nameF (fun F9 eF9 => ?_)
            replace h := h F9 eF9
            refine s_iload_n (q := 6) 3 1 rfl rfl ?_
            refine s_bipush (q := 8) 4 rfl ?_
            refine s_icmp_lt (q := 11) (tgt := 18) 5 rfl rfl (fun hb => absurd hb (by decide)) (fun _ => ?_)
            refine s_iload_n (q := 12) 6 1 rfl rfl ?_
            refine n_ineg (q := 13) 7 rfl (by decide) ?_
            refine PW.top (b := 1) (by decide) ?_
            refine s_iconst (q := 14) 8 rfl ?_
            refine n_isub (q := 15) 9 rfl (by decide) ?_
            refine PW.top (b := 0) (by decide) ?_
            refine s_goto (tgt := 22) 10 rfl rfl ?_
            refine s_istore_n (q := 23) (lv' := [(2, (0, 0)), (0, (2, x0)), (1, (0, (-1)))]) 15 rfl rfl ?_
            refine s_iload_n (q := 24) 16 0 rfl rfl ?_
            refine s_if_lt (q := 27) (tgt := 42) 17 rfl rfl (fun hb => absurd hb (by decide)) (fun _ => ?_)
            refine s_iload_n (q := 28) 18 0 rfl rfl ?_
            refine s_iconst (q := 29) 19 rfl ?_
            refine s_icmp_ge (q := 32) (tgt := 42) 20 rfl rfl (fun hb => absurd hb (by decide)) (fun _ => ?_)
            refine s_aload_n (q := 33) 21 1 rfl rfl ?_
            refine n_getf (q := 36) (jj := 13) 22 11 13 rfl kX11_87 c23 ?_
            refine PW.top (b := F x0 13) (by exact (congrFun (congrFun eF9 _) _).trans (pUp_k (by decide))) ?_
            refine s_iload_n (q := 37) 23 0 rfl rfl ?_
            refine s_dup2 (q := 38) 24 rfl ?_
            obtain ⟨c24, h⟩ := h
            obtain ⟨c25, h⟩ := h
            refine n_iald (q := 39) 25 rfl c24 c25 ?_
            refine s_iconst (q := 40) 26 rfl ?_
            refine s_iadd (q := 41) 27 rfl ?_
            obtain ⟨c26, h⟩ := h
            refine n_iast (q := 42) 28 rfl c26 c24 c25 ?_
            refine PW.nameE (fun E10 eE10 => ?_)
            replace h := h E10 eE10
            refine s_iload_n (q := 43) 29 2 rfl rfl ?_
            refine s_iret 30 rfl rfl ?_
            show PW l G 2 mX11_filter bg 36 [(0, (2, x0)), (1, (0, x1)), (2, (0, x2)), (3, (0, x3)), (4, (0, x4))] [(0, (-1))] (n, K, F9, E10) Q
            exact s_iret 17 rfl rfl h
theorem vX11_filter_47 {l : Launch} {G : pG} {bg : Nat × Nat} {n : Nat} {K : Int → Nat × Nat} {F E : Int → Int → Int} {Q : Option pV → pM → Prop} (s0 : Int) (h : Q (some (0, s0)) (n, K, F, E)) : PW l G 2 mX11_filter bg 47 [] [(0, s0)] (n, K, F, E) Q := by
  exact s_iret 25 rfl rfl h
theorem vX11_operator_0 {l : Launch} {G : pG} {bg : Nat × Nat} {n : Nat} {K : Int → Nat × Nat} {F E : Int → Int → Int} {Q : Option pV → pM → Prop} (x0 x1 x2 : Int) (h : (K x0).1 = 11 ∧ (K (F x0 0)).1 = 1 ∧ (K (F (F x0 0) 0)).1 = 0 ∧ (K (F (F (F x0 0) 0) 0)).1 = 20 ∧ ((0 : Int) ≤ 0 ∧ 0 < ((K (F (F (F x0 0) 0) 0)).2 : Int)) ∧ ((¬ (0 ≤ x1 ∧ x1 < E (F (F (F x0 0) 0) 0) 0) → Q (some (0, (-1000))) (n, K, F, E)) ∧ (0 ≤ x1 ∧ x1 < E (F (F (F x0 0) 0) 0) 0 → ((x2 < 0 → Q (some (0, (-1000))) (n, K, F, E)) ∧ (¬ (x2 < 0) → ((x2 ≤ 5 → (-2147483648 ≤ x1 * 6 ∧ x1 * 6 < 2147483648) ∧ (-2147483648 ≤ 12 + (x1 * 6) ∧ 12 + (x1 * 6) < 2147483648) ∧ (-2147483648 ≤ (12 + (x1 * 6)) + x2 ∧ (12 + (x1 * 6)) + x2 < 2147483648) ∧ ((0 : Int) ≤ (12 + (x1 * 6)) + x2 ∧ (12 + (x1 * 6)) + x2 < ((K (F (F (F x0 0) 0) 0)).2 : Int)) ∧ (∀ a1, a1 = E (F (F (F x0 0) 0) 0) ((12 + (x1 * 6)) + x2) → Q (some (0, a1)) (n, K, F, E))) ∧ (¬ (x2 ≤ 5) → Q (some (0, (-1000))) (n, K, F, E)))))))) : PW l G 1 mX11_operator bg 0 [(0, (2, x0)), (1, (0, x1)), (2, (0, x2))] [] (n, K, F, E) Q := by
  refine s_aload_n (q := 1) 0 0 rfl rfl ?_
  obtain ⟨c1, h⟩ := h
  refine n_getf (q := 4) (jj := 0) 1 11 0 rfl kX11_10 c1 ?_
  obtain ⟨c2, h⟩ := h
  refine n_getf (q := 7) (jj := 0) 2 1 0 rfl kX11_125 c2 ?_
  refine s_iload_n (q := 8) 3 1 rfl rfl ?_
  obtain ⟨c3, h⟩ := h
  obtain ⟨c4, h⟩ := h
  obtain ⟨c5, h⟩ := h
  refine n_callV (N := mX0_hasOperator) (as := [(0, x1)]) (st := []) (q := 11) (d' := 0) 4 rfl uX0_hasOperator kX11_128 rfl c3 (pX0_hasOperator c3 c4 c5 ?_)
  show PW l G 1 mX11_operator bg 11 [(0, (2, x0)), (1, (0, x1)), (2, (0, x2))] [(0, bI (0 ≤ x1 ∧ x1 < E (F (F (F x0 0) 0) 0) 0))] (n, K, F, E) Q
  refine s_if_eq (q := 14) (tgt := 23) 5 rfl rfl (fun hb => ?_) (fun hb => ?_)
  · have hb := bI_f hb
    have b6 := hb
    replace h := h.1 hb
    refine s_sipush (q := 26) 11 rfl ?_
    exact s_iret 12 rfl rfl h
  · have hb := bI_t hb
    have b6 := hb
    replace h := h.2 hb
    refine s_iload_n (q := 15) 6 2 rfl rfl ?_
    refine s_if_lt (q := 18) (tgt := 23) 7 rfl rfl (fun hb => ?_) (fun hb => ?_)
    · skip
      have b7 := hb
      replace h := h.1 hb
      refine s_sipush (q := 26) 11 rfl ?_
      exact s_iret 12 rfl rfl h
    · skip
      have b7 := hb
      replace h := h.2 hb
      refine s_iload_n (q := 19) 8 2 rfl rfl ?_
      refine s_iconst (q := 20) 9 rfl ?_
      refine s_icmp_le (q := 23) (tgt := 27) 10 rfl rfl (fun hb => ?_) (fun hb => ?_)
      · skip
        have b8 := hb
        replace h := h.1 hb
        refine s_aload_n (q := 28) 13 0 rfl rfl ?_
        refine n_getf (q := 31) (jj := 0) 14 11 0 rfl kX11_10 c1 ?_
        refine n_getf (q := 34) (jj := 0) 15 1 0 rfl kX11_125 c2 ?_
        refine s_iload_n (q := 35) 16 1 rfl rfl ?_
        refine s_iload_n (q := 36) 17 2 rfl rfl ?_
        refine n_callV (N := mX0_part) (as := [(0, x1), (0, x2)]) (st := []) (q := 39) (d' := 0) 18 rfl uX0_part kX11_131 rfl c3 ?_
        show PW l G 0 mX0_part (0, 0) 0 [(0, (2, F (F x0 0) 0)), (1, (0, x1)), (2, (0, x2))] [] (n, K, F, E) _
        refine s_aload_n (q := 1) 0 0 rfl rfl ?_
        refine n_getf (q := 4) (jj := 0) 1 0 0 rfl kX0_11 c3 ?_
        refine s_bipush (q := 6) 2 rfl ?_
        refine s_iload_n (q := 7) 3 1 rfl rfl ?_
        refine s_bipush (q := 9) 4 rfl ?_
        obtain ⟨c9, h⟩ := h
        refine n_imul (q := 10) 5 rfl c9 ?_
        obtain ⟨c10, h⟩ := h
        refine n_iadd (q := 11) 6 rfl c10 ?_
        refine s_iload_n (q := 12) 7 2 rfl rfl ?_
        obtain ⟨c11, h⟩ := h
        refine n_iadd (q := 13) 8 rfl c11 ?_
        obtain ⟨c12, h⟩ := h
        refine n_iald (q := 14) 9 rfl c4 c12 ?_
        refine PW.name (fun a1 ea1 => ?_)
        replace h := h a1 ea1
        refine s_iret 10 rfl rfl ?_
        show PW l G 1 mX11_operator bg 39 [(0, (2, x0)), (1, (0, x1)), (2, (0, x2))] [(0, a1)] (n, K, F, E) Q
        exact s_iret 19 rfl rfl h
      · skip
        have b8 := hb
        replace h := h.2 hb
        refine s_sipush (q := 26) 11 rfl ?_
        exact s_iret 12 rfl rfl h
theorem vX11_relation_0 {l : Launch} {G : pG} {bg : Nat × Nat} {n : Nat} {K : Int → Nat × Nat} {F E : Int → Int → Int} {Q : Option pV → pM → Prop} (x0 x1 x2 : Int) (h : ((0 ≤ x1 ∧ x1 < 3 → (((x2 < 0 ∨ 2 < x2) → Q (some (0, (-1))) (n, K, F, E)) ∧ (x2 = 0 → (K x0).1 = 11 ∧ (K (F x0 0)).1 = 1 ∧ (K (F (F x0 0) 0)).1 = 0 ∧ (-2147483648 ≤ 3 + x1 ∧ 3 + x1 < 2147483648) ∧ (K (F (F (F x0 0) 0) 0)).1 = 20 ∧ ((0 : Int) ≤ 3 + x1 ∧ 3 + x1 < ((K (F (F (F x0 0) 0) 0)).2 : Int)) ∧ Q (some (0, E (F (F (F x0 0) 0) 0) (3 + x1))) (n, K, F, E)) ∧ (x2 = 1 → (K x0).1 = 11 ∧ (K (F x0 0)).1 = 1 ∧ (K (F (F x0 0) 0)).1 = 0 ∧ (-2147483648 ≤ 6 + x1 ∧ 6 + x1 < 2147483648) ∧ (K (F (F (F x0 0) 0) 0)).1 = 20 ∧ ((0 : Int) ≤ 6 + x1 ∧ 6 + x1 < ((K (F (F (F x0 0) 0) 0)).2 : Int)) ∧ Q (some (0, E (F (F (F x0 0) 0) 0) (6 + x1))) (n, K, F, E)) ∧ (x2 = 2 → (K x0).1 = 11 ∧ (K (F x0 0)).1 = 1 ∧ (K (F (F x0 0) 0)).1 = 0 ∧ (-2147483648 ≤ 9 + x1 ∧ 9 + x1 < 2147483648) ∧ (K (F (F (F x0 0) 0) 0)).1 = 20 ∧ ((0 : Int) ≤ 9 + x1 ∧ 9 + x1 < ((K (F (F (F x0 0) 0) 0)).2 : Int)) ∧ Q (some (0, E (F (F (F x0 0) 0) 0) (9 + x1))) (n, K, F, E)))) ∧ (¬ (0 ≤ x1 ∧ x1 < 3) → Q (some (0, (-1))) (n, K, F, E)))) : PW l G 1 mX11_relation bg 0 [(0, (2, x0)), (1, (0, x1)), (2, (0, x2))] [] (n, K, F, E) Q := by
  refine s_iload_n (q := 1) 0 1 rfl rfl ?_
  refine n_callS (N := mX11_isRelation) (as := [(0, x1)]) (st := []) (q := 4) (d' := 0) 1 rfl uX11_isRelation kX11_107 rfl (pX11_isRelation ?_)
  show PW l G 1 mX11_relation bg 4 [(0, (2, x0)), (1, (0, x1)), (2, (0, x2))] [(0, bI (0 ≤ x1 ∧ x1 < 3))] (n, K, F, E) Q
  refine s_if_ne (q := 7) (tgt := 9) 2 rfl rfl (fun hb => ?_) (fun hb => ?_)
  · have hb := bI_t hb
    have b1 := hb
    replace h := h.1 hb
    refine s_iload_n (q := 10) 5 2 rfl rfl ?_
    obtain ⟨h0, h⟩ := h
    by_cases hsw : x2 < 0 ∨ 2 < x2
    · refine s_tableOut (tgt := 72) 6 rfl hsw rfl ?_
      replace h := h0 hsw
      refine s_iconst (q := 73) 25 rfl ?_
      exact s_iret 26 rfl rfl h
    have gl : 0 ≤ x2 := by omega
    have gh : x2 ≤ 2 := by omega
    clear hsw
    obtain ⟨h0, h⟩ := h
    by_cases hs0 : x2 = 0
    · refine s_tableIn (tgt := 36) (off := 26) 6 rfl ⟨by rw [hs0]; decide, by rw [hs0]; decide⟩ (by rw [hs0]; rfl) rfl ?_
      replace h := h0 hs0
      refine s_aload_n (q := 37) 7 0 rfl rfl ?_
      obtain ⟨c2, h⟩ := h
      refine n_getf (q := 40) (jj := 0) 8 11 0 rfl kX11_10 c2 ?_
      obtain ⟨c3, h⟩ := h
      refine n_getf (q := 43) (jj := 0) 9 1 0 rfl kX11_125 c3 ?_
      refine s_iload_n (q := 44) 10 1 rfl rfl ?_
      obtain ⟨c4, h⟩ := h
      refine n_callV (N := mX0_windowOf) (as := [(0, x1)]) (st := []) (q := 47) (d' := 0) 11 rfl uX0_windowOf kX11_135 rfl c4 ?_
      show PW l G 0 mX0_windowOf (0, 0) 0 [(0, (2, F (F x0 0) 0)), (1, (0, x1))] [] (n, K, F, E) _
      refine s_aload_n (q := 1) 0 0 rfl rfl ?_
      refine n_getf (q := 4) (jj := 0) 1 0 0 rfl kX0_11 c4 ?_
      refine s_iconst (q := 5) 2 rfl ?_
      refine s_iload_n (q := 6) 3 1 rfl rfl ?_
      obtain ⟨c5, h⟩ := h
      refine n_iadd (q := 7) 4 rfl c5 ?_
      obtain ⟨c6, h⟩ := h
      obtain ⟨c7, h⟩ := h
      refine n_iald (q := 8) 5 rfl c6 c7 ?_
      refine s_iret 6 rfl rfl ?_
      show PW l G 1 mX11_relation bg 47 [(0, (2, x0)), (1, (0, x1)), (2, (0, x2))] [(0, E (F (F (F x0 0) 0) 0) (3 + x1))] (n, K, F, E) Q
      exact s_iret 12 rfl rfl h
    clear h0
    replace gl : 1 ≤ x2 := by clear h; omega
    clear hs0
    obtain ⟨h0, h⟩ := h
    by_cases hs0 : x2 = 1
    · refine s_tableIn (tgt := 48) (off := 38) 6 rfl ⟨by rw [hs0]; decide, by rw [hs0]; decide⟩ (by rw [hs0]; rfl) rfl ?_
      replace h := h0 hs0
      refine s_aload_n (q := 49) 13 0 rfl rfl ?_
      obtain ⟨c8, h⟩ := h
      refine n_getf (q := 52) (jj := 0) 14 11 0 rfl kX11_10 c8 ?_
      obtain ⟨c9, h⟩ := h
      refine n_getf (q := 55) (jj := 0) 15 1 0 rfl kX11_125 c9 ?_
      refine s_iload_n (q := 56) 16 1 rfl rfl ?_
      obtain ⟨c10, h⟩ := h
      refine n_callV (N := mX0_indexOn) (as := [(0, x1)]) (st := []) (q := 59) (d' := 0) 17 rfl uX0_indexOn kX11_138 rfl c10 ?_
      show PW l G 0 mX0_indexOn (0, 0) 0 [(0, (2, F (F x0 0) 0)), (1, (0, x1))] [] (n, K, F, E) _
      refine s_aload_n (q := 1) 0 0 rfl rfl ?_
      refine n_getf (q := 4) (jj := 0) 1 0 0 rfl kX0_11 c10 ?_
      refine s_bipush (q := 6) 2 rfl ?_
      refine s_iload_n (q := 7) 3 1 rfl rfl ?_
      obtain ⟨c11, h⟩ := h
      refine n_iadd (q := 8) 4 rfl c11 ?_
      obtain ⟨c12, h⟩ := h
      obtain ⟨c13, h⟩ := h
      refine n_iald (q := 9) 5 rfl c12 c13 ?_
      refine s_iret 6 rfl rfl ?_
      show PW l G 1 mX11_relation bg 59 [(0, (2, x0)), (1, (0, x1)), (2, (0, x2))] [(0, E (F (F (F x0 0) 0) 0) (6 + x1))] (n, K, F, E) Q
      exact s_iret 18 rfl rfl h
    clear h0
    replace gl : 2 ≤ x2 := by clear h; omega
    clear hs0
    have h0 := h
    by_cases hs0 : x2 = 2
    · refine s_tableIn (tgt := 60) (off := 50) 6 rfl ⟨by rw [hs0]; decide, by rw [hs0]; decide⟩ (by rw [hs0]; rfl) rfl ?_
      replace h := h0 hs0
      refine s_aload_n (q := 61) 19 0 rfl rfl ?_
      obtain ⟨c14, h⟩ := h
      refine n_getf (q := 64) (jj := 0) 20 11 0 rfl kX11_10 c14 ?_
      obtain ⟨c15, h⟩ := h
      refine n_getf (q := 67) (jj := 0) 21 1 0 rfl kX11_125 c15 ?_
      refine s_iload_n (q := 68) 22 1 rfl rfl ?_
      obtain ⟨c16, h⟩ := h
      refine n_callV (N := mX0_held) (as := [(0, x1)]) (st := []) (q := 71) (d' := 0) 23 rfl uX0_held kX11_141 rfl c16 ?_
      show PW l G 0 mX0_held (0, 0) 0 [(0, (2, F (F x0 0) 0)), (1, (0, x1))] [] (n, K, F, E) _
      refine s_aload_n (q := 1) 0 0 rfl rfl ?_
      refine n_getf (q := 4) (jj := 0) 1 0 0 rfl kX0_11 c16 ?_
      refine s_bipush (q := 6) 2 rfl ?_
      refine s_iload_n (q := 7) 3 1 rfl rfl ?_
      obtain ⟨c17, h⟩ := h
      refine n_iadd (q := 8) 4 rfl c17 ?_
      obtain ⟨c18, h⟩ := h
      obtain ⟨c19, h⟩ := h
      refine n_iald (q := 9) 5 rfl c18 c19 ?_
      refine s_iret 6 rfl rfl ?_
      show PW l G 1 mX11_relation bg 71 [(0, (2, x0)), (1, (0, x1)), (2, (0, x2))] [(0, E (F (F (F x0 0) 0) 0) (9 + x1))] (n, K, F, E) Q
      exact s_iret 24 rfl rfl h
    clear h0
    replace gl : 3 ≤ x2 := by clear h; omega
    clear hs0
    clear h
    exfalso
    omega
  · have hb := bI_f2 hb
    have b1 := hb
    replace h := h.2 hb
    refine s_iconst (q := 8) 3 rfl ?_
    exact s_iret 4 rfl rfl h
theorem vX11_tuple_0 {l : Launch} {G : pG} {bg : Nat × Nat} {n : Nat} {K : Int → Nat × Nat} {F E : Int → Int → Int} {Q : Option pV → pM → Prop} (x0 x1 x2 x3 : Int) (h : ((¬ (0 ≤ x1 ∧ x1 < 3) → Q (some (0, (-1))) (n, K, F, E)) ∧ (0 ≤ x1 ∧ x1 < 3 → ((x2 < 0 → Q (some (0, (-1))) (n, K, F, E)) ∧ (¬ (x2 < 0) → (K x0).1 = 11 ∧ (K (F x0 0)).1 = 1 ∧ (K (F (F x0 0) 0)).1 = 0 ∧ (-2147483648 ≤ 9 + x1 ∧ 9 + x1 < 2147483648) ∧ (K (F (F (F x0 0) 0) 0)).1 = 20 ∧ ((0 : Int) ≤ 9 + x1 ∧ 9 + x1 < ((K (F (F (F x0 0) 0) 0)).2 : Int)) ∧ ((E (F (F (F x0 0) 0) 0) (9 + x1) ≤ x2 → Q (some (0, (-1))) (n, K, F, E)) ∧ (¬ (E (F (F (F x0 0) 0) 0) (9 + x1) ≤ x2) → ((x3 < 0 → Q (some (0, (-1))) (n, K, F, E)) ∧ (¬ (x3 < 0) → ((x3 ≤ 2 → (-2147483648 ≤ x1 * 9 ∧ x1 * 9 < 2147483648) ∧ (-2147483648 ≤ (x1 * 9) + x2 ∧ (x1 * 9) + x2 < 2147483648) ∧ (-2147483648 ≤ ((x1 * 9) + x2) * 3 ∧ ((x1 * 9) + x2) * 3 < 2147483648) ∧ (-2147483648 ≤ 36 + (((x1 * 9) + x2) * 3) ∧ 36 + (((x1 * 9) + x2) * 3) < 2147483648) ∧ (-2147483648 ≤ (36 + (((x1 * 9) + x2) * 3)) + x3 ∧ (36 + (((x1 * 9) + x2) * 3)) + x3 < 2147483648) ∧ ((0 : Int) ≤ (36 + (((x1 * 9) + x2) * 3)) + x3 ∧ (36 + (((x1 * 9) + x2) * 3)) + x3 < ((K (F (F (F x0 0) 0) 0)).2 : Int)) ∧ (∀ a1, a1 = E (F (F (F x0 0) 0) 0) ((36 + (((x1 * 9) + x2) * 3)) + x3) → Q (some (0, a1)) (n, K, F, E))) ∧ (¬ (x3 ≤ 2) → Q (some (0, (-1))) (n, K, F, E)))))))))))) : PW l G 1 mX11_tuple bg 0 [(0, (2, x0)), (1, (0, x1)), (2, (0, x2)), (3, (0, x3))] [] (n, K, F, E) Q := by
  refine s_iload_n (q := 1) 0 1 rfl rfl ?_
  refine n_callS (N := mX11_isRelation) (as := [(0, x1)]) (st := []) (q := 4) (d' := 0) 1 rfl uX11_isRelation kX11_107 rfl (pX11_isRelation ?_)
  show PW l G 1 mX11_tuple bg 4 [(0, (2, x0)), (1, (0, x1)), (2, (0, x2)), (3, (0, x3))] [(0, bI (0 ≤ x1 ∧ x1 < 3))] (n, K, F, E) Q
  refine s_if_eq (q := 7) (tgt := 35) 2 rfl rfl (fun hb => ?_) (fun hb => ?_)
  · have hb := bI_f hb
    have b1 := hb
    replace h := h.1 hb
    refine s_iconst (q := 36) 17 rfl ?_
    exact s_iret 18 rfl rfl h
  · have hb := bI_t hb
    have b1 := hb
    replace h := h.2 hb
    refine s_iload_n (q := 8) 3 2 rfl rfl ?_
    refine s_if_lt (q := 11) (tgt := 35) 4 rfl rfl (fun hb => ?_) (fun hb => ?_)
    · skip
      have b2 := hb
      replace h := h.1 hb
      refine s_iconst (q := 36) 17 rfl ?_
      exact s_iret 18 rfl rfl h
    · skip
      have b2 := hb
      replace h := h.2 hb
      refine s_iload_n (q := 12) 5 2 rfl rfl ?_
      refine s_aload_n (q := 13) 6 0 rfl rfl ?_
      obtain ⟨c3, h⟩ := h
      refine n_getf (q := 16) (jj := 0) 7 11 0 rfl kX11_10 c3 ?_
      obtain ⟨c4, h⟩ := h
      refine n_getf (q := 19) (jj := 0) 8 1 0 rfl kX11_125 c4 ?_
      refine s_iload_n (q := 20) 9 1 rfl rfl ?_
      obtain ⟨c5, h⟩ := h
      refine n_callV (N := mX0_held) (as := [(0, x1)]) (st := [(0, x2)]) (q := 23) (d' := 0) 10 rfl uX0_held kX11_141 rfl c5 ?_
      show PW l G 0 mX0_held (0, 0) 0 [(0, (2, F (F x0 0) 0)), (1, (0, x1))] [] (n, K, F, E) _
      refine s_aload_n (q := 1) 0 0 rfl rfl ?_
      refine n_getf (q := 4) (jj := 0) 1 0 0 rfl kX0_11 c5 ?_
      refine s_bipush (q := 6) 2 rfl ?_
      refine s_iload_n (q := 7) 3 1 rfl rfl ?_
      obtain ⟨c6, h⟩ := h
      refine n_iadd (q := 8) 4 rfl c6 ?_
      obtain ⟨c7, h⟩ := h
      obtain ⟨c8, h⟩ := h
      refine n_iald (q := 9) 5 rfl c7 c8 ?_
      refine s_iret 6 rfl rfl ?_
      show PW l G 1 mX11_tuple bg 23 [(0, (2, x0)), (1, (0, x1)), (2, (0, x2)), (3, (0, x3))] [(0, E (F (F (F x0 0) 0) 0) (9 + x1)), (0, x2)] (n, K, F, E) Q
      refine s_icmp_ge (q := 26) (tgt := 35) 11 rfl rfl (fun hb => ?_) (fun hb => ?_)
      · skip
        have b9 := hb
        replace h := h.1 hb
        refine s_iconst (q := 36) 17 rfl ?_
        exact s_iret 18 rfl rfl h
      · skip
        have b9 := hb
        replace h := h.2 hb
        refine s_iload_n (q := 27) 12 3 rfl rfl ?_
        refine s_if_lt (q := 30) (tgt := 35) 13 rfl rfl (fun hb => ?_) (fun hb => ?_)
        · skip
          have b10 := hb
          replace h := h.1 hb
          refine s_iconst (q := 36) 17 rfl ?_
          exact s_iret 18 rfl rfl h
        · skip
          have b10 := hb
          replace h := h.2 hb
          refine s_iload_n (q := 31) 14 3 rfl rfl ?_
          refine s_iconst (q := 32) 15 rfl ?_
          refine s_icmp_le (q := 35) (tgt := 37) 16 rfl rfl (fun hb => ?_) (fun hb => ?_)
          · skip
            have b11 := hb
            replace h := h.1 hb
            refine s_aload_n (q := 38) 19 0 rfl rfl ?_
            refine n_getf (q := 41) (jj := 0) 20 11 0 rfl kX11_10 c3 ?_
            refine n_getf (q := 44) (jj := 0) 21 1 0 rfl kX11_125 c4 ?_
            refine s_iload_n (q := 45) 22 1 rfl rfl ?_
            refine s_iload_n (q := 46) 23 2 rfl rfl ?_
            refine s_iload_n (q := 47) 24 3 rfl rfl ?_
            refine n_callV (N := mX0_cell) (as := [(0, x1), (0, x2), (0, x3)]) (st := []) (q := 50) (d' := 0) 25 rfl uX0_cell kX11_144 rfl c5 ?_
            show PW l G 0 mX0_cell (0, 0) 0 [(0, (2, F (F x0 0) 0)), (1, (0, x1)), (2, (0, x2)), (3, (0, x3))] [] (n, K, F, E) _
            refine s_aload_n (q := 1) 0 0 rfl rfl ?_
            refine n_getf (q := 4) (jj := 0) 1 0 0 rfl kX0_11 c5 ?_
            refine s_bipush (q := 6) 2 rfl ?_
            refine s_iload_n (q := 7) 3 1 rfl rfl ?_
            refine s_bipush (q := 9) 4 rfl ?_
            obtain ⟨c12, h⟩ := h
            refine n_imul (q := 10) 5 rfl c12 ?_
            refine s_iload_n (q := 11) 6 2 rfl rfl ?_
            obtain ⟨c13, h⟩ := h
            refine n_iadd (q := 12) 7 rfl c13 ?_
            refine s_iconst (q := 13) 8 rfl ?_
            obtain ⟨c14, h⟩ := h
            refine n_imul (q := 14) 9 rfl c14 ?_
            obtain ⟨c15, h⟩ := h
            refine n_iadd (q := 15) 10 rfl c15 ?_
            refine s_iload_n (q := 16) 11 3 rfl rfl ?_
            obtain ⟨c16, h⟩ := h
            refine n_iadd (q := 17) 12 rfl c16 ?_
            obtain ⟨c17, h⟩ := h
            refine n_iald (q := 18) 13 rfl c7 c17 ?_
            refine PW.name (fun a1 ea1 => ?_)
            replace h := h a1 ea1
            refine s_iret 14 rfl rfl ?_
            show PW l G 1 mX11_tuple bg 50 [(0, (2, x0)), (1, (0, x1)), (2, (0, x2)), (3, (0, x3))] [(0, a1)] (n, K, F, E) Q
            exact s_iret 26 rfl rfl h
          · skip
            have b11 := hb
            replace h := h.2 hb
            refine s_iconst (q := 36) 17 rfl ?_
            exact s_iret 18 rfl rfl h
theorem vX11_terms_0 {l : Launch} {G : pG} {bg : Nat × Nat} {n : Nat} {K : Int → Nat × Nat} {F E : Int → Int → Int} {Q : Option pV → pM → Prop} (x0 x1 x2 : Int) (h : ((x1 < 0 → (K x0).1 = 11 ∧ (∀ F1, F1 = pUp F x0 16 (-1) → (K (F x0 13)).1 = 20 ∧ ((0 : Int) ≤ 0 ∧ 0 < ((K (F x0 13)).2 : Int)) ∧ (0 : Int) ≤ F x0 13 ∧ (∀ E2, E2 = pUp E (F x0 13) 0 (w32 ((E (F x0 13) 0) + 1)) → Q (some (0, (-1))) (n, K, F1, E2)))) ∧ (¬ (x1 < 0) → ((3 ≤ x1 → (K x0).1 = 11 ∧ (∀ F3, F3 = pUp F x0 16 (-1) → (K (F x0 13)).1 = 20 ∧ ((0 : Int) ≤ 0 ∧ 0 < ((K (F x0 13)).2 : Int)) ∧ (0 : Int) ≤ F x0 13 ∧ (∀ E4, E4 = pUp E (F x0 13) 0 (w32 ((E (F x0 13) 0) + 1)) → Q (some (0, (-1))) (n, K, F3, E4)))) ∧ (¬ (3 ≤ x1) → (K (pRef G.1 (G.2.2.2.2 0))).1 = 20 ∧ ((0 : Int) ≤ x1 ∧ x1 < ((K (pRef G.1 (G.2.2.2.2 0))).2 : Int)) ∧ ((x2 < E (pRef G.1 (G.2.2.2.2 0)) x1 → (K x0).1 = 11 ∧ (∀ F5, F5 = pUp F x0 16 (-1) → (K (F x0 13)).1 = 20 ∧ ((0 : Int) ≤ 0 ∧ 0 < ((K (F x0 13)).2 : Int)) ∧ (0 : Int) ≤ F x0 13 ∧ (∀ E6, E6 = pUp E (F x0 13) 0 (w32 ((E (F x0 13) 0) + 1)) → Q (some (0, (-1))) (n, K, F5, E6)))) ∧ (¬ (x2 < E (pRef G.1 (G.2.2.2.2 0)) x1) → (K (pRef G.1 (G.2.2.2.2 1))).1 = 20 ∧ ((0 : Int) ≤ x1 ∧ x1 < ((K (pRef G.1 (G.2.2.2.2 1))).2 : Int)) ∧ ((x2 ≤ E (pRef G.1 (G.2.2.2.2 1)) x1 → (K x0).1 = 11 ∧ (K (F x0 0)).1 = 1 ∧ (K (F (F x0 0) 1)).1 = 20 ∧ ((0 : Int) ≤ x1 ∧ x1 < ((K (F (F x0 0) 1)).2 : Int)) ∧ (0 : Int) ≤ F (F x0 0) 1 ∧ (∀ E7, E7 = pUp E (F (F x0 0) 1) x1 x2 → (∀ F8, F8 = pUp F x0 16 0 → Q (some (0, E (F (F x0 0) 1) x1)) (n, K, F8, E7)))) ∧ (¬ (x2 ≤ E (pRef G.1 (G.2.2.2.2 1)) x1) → (K x0).1 = 11 ∧ (∀ F9, F9 = pUp F x0 16 (-1) → (K (F x0 13)).1 = 20 ∧ ((0 : Int) ≤ 0 ∧ 0 < ((K (F x0 13)).2 : Int)) ∧ (0 : Int) ≤ F x0 13 ∧ (∀ E10, E10 = pUp E (F x0 13) 0 (w32 ((E (F x0 13) 0) + 1)) → Q (some (0, (-1))) (n, K, F9, E10)))))))))))) : PW l G 1 mX11_terms bg 0 [(0, (2, x0)), (1, (0, x1)), (2, (0, x2))] [] (n, K, F, E) Q := by
  refine s_iload_n (q := 1) 0 1 rfl rfl ?_
  refine s_if_lt (q := 4) (tgt := 27) 1 rfl rfl (fun hb => ?_) (fun hb => ?_)
  · skip
    have b1 := hb
    replace h := h.1 hb
    refine s_aload_n (q := 28) 15 0 rfl rfl ?_
    refine s_iconst (q := 29) 16 rfl ?_
    obtain ⟨c2, h⟩ := h
    refine n_callV (N := mX11_refuse) (as := [(0, (-1))]) (st := []) (q := 32) (d' := 0) 17 rfl uX11_refuse kX11_114 rfl c2 ?_
    show PW l G 0 mX11_refuse (0, 0) 0 [(0, (2, x0)), (1, (0, (-1)))] [] (n, K, F, E) _
    refine s_aload_n (q := 1) 0 0 rfl rfl ?_
    refine s_iload_n (q := 2) 1 1 rfl rfl ?_
    refine n_putf (q := 5) (jj := 16) 2 11 16 rfl kX11_97 c2 (Or.inl rfl) ?_
    refine PW.nameF (fun F1 eF1 => ?_)
    replace h := h F1 eF1
    refine s_iload_n (q := 6) 3 1 rfl rfl ?_
    refine s_bipush (q := 8) 4 rfl ?_
    refine s_icmp_lt (q := 11) (tgt := 18) 5 rfl rfl (fun hb => absurd hb (by decide)) (fun _ => ?_)
    refine s_iload_n (q := 12) 6 1 rfl rfl ?_
    refine n_ineg (q := 13) 7 rfl (by decide) ?_
    refine PW.top (b := 1) (by decide) ?_
    refine s_iconst (q := 14) 8 rfl ?_
    refine n_isub (q := 15) 9 rfl (by decide) ?_
    refine PW.top (b := 0) (by decide) ?_
    refine s_goto (tgt := 22) 10 rfl rfl ?_
    refine s_istore_n (q := 23) (lv' := [(2, (0, 0)), (0, (2, x0)), (1, (0, (-1)))]) 15 rfl rfl ?_
    refine s_iload_n (q := 24) 16 0 rfl rfl ?_
    refine s_if_lt (q := 27) (tgt := 42) 17 rfl rfl (fun hb => absurd hb (by decide)) (fun _ => ?_)
    refine s_iload_n (q := 28) 18 0 rfl rfl ?_
    refine s_iconst (q := 29) 19 rfl ?_
    refine s_icmp_ge (q := 32) (tgt := 42) 20 rfl rfl (fun hb => absurd hb (by decide)) (fun _ => ?_)
    refine s_aload_n (q := 33) 21 1 rfl rfl ?_
    refine n_getf (q := 36) (jj := 13) 22 11 13 rfl kX11_87 c2 ?_
    refine PW.top (b := F x0 13) (by exact (congrFun (congrFun eF1 _) _).trans (pUp_k (by decide))) ?_
    refine s_iload_n (q := 37) 23 0 rfl rfl ?_
    refine s_dup2 (q := 38) 24 rfl ?_
    obtain ⟨c3, h⟩ := h
    obtain ⟨c4, h⟩ := h
    refine n_iald (q := 39) 25 rfl c3 c4 ?_
    refine s_iconst (q := 40) 26 rfl ?_
    refine s_iadd (q := 41) 27 rfl ?_
    obtain ⟨c5, h⟩ := h
    refine n_iast (q := 42) 28 rfl c5 c3 c4 ?_
    refine PW.nameE (fun E2 eE2 => ?_)
    replace h := h E2 eE2
    refine s_iload_n (q := 43) 29 2 rfl rfl ?_
    refine s_iret 30 rfl rfl ?_
    show PW l G 1 mX11_terms bg 32 [(0, (2, x0)), (1, (0, x1)), (2, (0, x2))] [(0, (-1))] (n, K, F1, E2) Q
    exact s_iret 18 rfl rfl h
  · skip
    have b1 := hb
    replace h := h.2 hb
    refine s_iload_n (q := 5) 2 1 rfl rfl ?_
    refine s_iconst (q := 6) 3 rfl ?_
    refine s_icmp_ge (q := 9) (tgt := 27) 4 rfl rfl (fun hb => ?_) (fun hb => ?_)
    · skip
      have b6 := hb
      replace h := h.1 hb
      refine s_aload_n (q := 28) 15 0 rfl rfl ?_
      refine s_iconst (q := 29) 16 rfl ?_
      obtain ⟨c7, h⟩ := h
      refine n_callV (N := mX11_refuse) (as := [(0, (-1))]) (st := []) (q := 32) (d' := 0) 17 rfl uX11_refuse kX11_114 rfl c7 ?_
      show PW l G 0 mX11_refuse (0, 0) 0 [(0, (2, x0)), (1, (0, (-1)))] [] (n, K, F, E) _
      refine s_aload_n (q := 1) 0 0 rfl rfl ?_
      refine s_iload_n (q := 2) 1 1 rfl rfl ?_
      refine n_putf (q := 5) (jj := 16) 2 11 16 rfl kX11_97 c7 (Or.inl rfl) ?_
      refine PW.nameF (fun F3 eF3 => ?_)
      replace h := h F3 eF3
      refine s_iload_n (q := 6) 3 1 rfl rfl ?_
      refine s_bipush (q := 8) 4 rfl ?_
      refine s_icmp_lt (q := 11) (tgt := 18) 5 rfl rfl (fun hb => absurd hb (by decide)) (fun _ => ?_)
      refine s_iload_n (q := 12) 6 1 rfl rfl ?_
      refine n_ineg (q := 13) 7 rfl (by decide) ?_
      refine PW.top (b := 1) (by decide) ?_
      refine s_iconst (q := 14) 8 rfl ?_
      refine n_isub (q := 15) 9 rfl (by decide) ?_
      refine PW.top (b := 0) (by decide) ?_
      refine s_goto (tgt := 22) 10 rfl rfl ?_
      refine s_istore_n (q := 23) (lv' := [(2, (0, 0)), (0, (2, x0)), (1, (0, (-1)))]) 15 rfl rfl ?_
      refine s_iload_n (q := 24) 16 0 rfl rfl ?_
      refine s_if_lt (q := 27) (tgt := 42) 17 rfl rfl (fun hb => absurd hb (by decide)) (fun _ => ?_)
      refine s_iload_n (q := 28) 18 0 rfl rfl ?_
      refine s_iconst (q := 29) 19 rfl ?_
      refine s_icmp_ge (q := 32) (tgt := 42) 20 rfl rfl (fun hb => absurd hb (by decide)) (fun _ => ?_)
      refine s_aload_n (q := 33) 21 1 rfl rfl ?_
      refine n_getf (q := 36) (jj := 13) 22 11 13 rfl kX11_87 c7 ?_
      refine PW.top (b := F x0 13) (by exact (congrFun (congrFun eF3 _) _).trans (pUp_k (by decide))) ?_
      refine s_iload_n (q := 37) 23 0 rfl rfl ?_
      refine s_dup2 (q := 38) 24 rfl ?_
      obtain ⟨c8, h⟩ := h
      obtain ⟨c9, h⟩ := h
      refine n_iald (q := 39) 25 rfl c8 c9 ?_
      refine s_iconst (q := 40) 26 rfl ?_
      refine s_iadd (q := 41) 27 rfl ?_
      obtain ⟨c10, h⟩ := h
      refine n_iast (q := 42) 28 rfl c10 c8 c9 ?_
      refine PW.nameE (fun E4 eE4 => ?_)
      replace h := h E4 eE4
      refine s_iload_n (q := 43) 29 2 rfl rfl ?_
      refine s_iret 30 rfl rfl ?_
      show PW l G 1 mX11_terms bg 32 [(0, (2, x0)), (1, (0, x1)), (2, (0, x2))] [(0, (-1))] (n, K, F3, E4) Q
      exact s_iret 18 rfl rfl h
    · skip
      have b6 := hb
      replace h := h.2 hb
      refine s_iload_n (q := 10) 5 2 rfl rfl ?_
      refine s_getL (q := 13) 6 0 rfl kX11_148 (by decide) ?_
      refine s_iload_n (q := 14) 7 1 rfl rfl ?_
      obtain ⟨c11, h⟩ := h
      obtain ⟨c12, h⟩ := h
      refine n_iald (q := 15) 8 rfl c11 c12 ?_
      refine s_icmp_lt (q := 18) (tgt := 27) 9 rfl rfl (fun hb => ?_) (fun hb => ?_)
      · skip
        have b13 := hb
        replace h := h.1 hb
        refine s_aload_n (q := 28) 15 0 rfl rfl ?_
        refine s_iconst (q := 29) 16 rfl ?_
        obtain ⟨c14, h⟩ := h
        refine n_callV (N := mX11_refuse) (as := [(0, (-1))]) (st := []) (q := 32) (d' := 0) 17 rfl uX11_refuse kX11_114 rfl c14 ?_
        show PW l G 0 mX11_refuse (0, 0) 0 [(0, (2, x0)), (1, (0, (-1)))] [] (n, K, F, E) _
        refine s_aload_n (q := 1) 0 0 rfl rfl ?_
        refine s_iload_n (q := 2) 1 1 rfl rfl ?_
        refine n_putf (q := 5) (jj := 16) 2 11 16 rfl kX11_97 c14 (Or.inl rfl) ?_
        refine PW.nameF (fun F5 eF5 => ?_)
        replace h := h F5 eF5
        refine s_iload_n (q := 6) 3 1 rfl rfl ?_
        refine s_bipush (q := 8) 4 rfl ?_
        refine s_icmp_lt (q := 11) (tgt := 18) 5 rfl rfl (fun hb => absurd hb (by decide)) (fun _ => ?_)
        refine s_iload_n (q := 12) 6 1 rfl rfl ?_
        refine n_ineg (q := 13) 7 rfl (by decide) ?_
        refine PW.top (b := 1) (by decide) ?_
        refine s_iconst (q := 14) 8 rfl ?_
        refine n_isub (q := 15) 9 rfl (by decide) ?_
        refine PW.top (b := 0) (by decide) ?_
        refine s_goto (tgt := 22) 10 rfl rfl ?_
        refine s_istore_n (q := 23) (lv' := [(2, (0, 0)), (0, (2, x0)), (1, (0, (-1)))]) 15 rfl rfl ?_
        refine s_iload_n (q := 24) 16 0 rfl rfl ?_
        refine s_if_lt (q := 27) (tgt := 42) 17 rfl rfl (fun hb => absurd hb (by decide)) (fun _ => ?_)
        refine s_iload_n (q := 28) 18 0 rfl rfl ?_
        refine s_iconst (q := 29) 19 rfl ?_
        refine s_icmp_ge (q := 32) (tgt := 42) 20 rfl rfl (fun hb => absurd hb (by decide)) (fun _ => ?_)
        refine s_aload_n (q := 33) 21 1 rfl rfl ?_
        refine n_getf (q := 36) (jj := 13) 22 11 13 rfl kX11_87 c14 ?_
        refine PW.top (b := F x0 13) (by exact (congrFun (congrFun eF5 _) _).trans (pUp_k (by decide))) ?_
        refine s_iload_n (q := 37) 23 0 rfl rfl ?_
        refine s_dup2 (q := 38) 24 rfl ?_
        obtain ⟨c15, h⟩ := h
        obtain ⟨c16, h⟩ := h
        refine n_iald (q := 39) 25 rfl c15 c16 ?_
        refine s_iconst (q := 40) 26 rfl ?_
        refine s_iadd (q := 41) 27 rfl ?_
        obtain ⟨c17, h⟩ := h
        refine n_iast (q := 42) 28 rfl c17 c15 c16 ?_
        refine PW.nameE (fun E6 eE6 => ?_)
        replace h := h E6 eE6
        refine s_iload_n (q := 43) 29 2 rfl rfl ?_
        refine s_iret 30 rfl rfl ?_
        show PW l G 1 mX11_terms bg 32 [(0, (2, x0)), (1, (0, x1)), (2, (0, x2))] [(0, (-1))] (n, K, F5, E6) Q
        exact s_iret 18 rfl rfl h
      · skip
        have b13 := hb
        replace h := h.2 hb
        refine s_iload_n (q := 19) 10 2 rfl rfl ?_
        refine s_getL (q := 22) 11 1 rfl kX11_151 (by decide) ?_
        refine s_iload_n (q := 23) 12 1 rfl rfl ?_
        obtain ⟨c18, h⟩ := h
        obtain ⟨c19, h⟩ := h
        refine n_iald (q := 24) 13 rfl c18 c19 ?_
        refine s_icmp_le (q := 27) (tgt := 33) 14 rfl rfl (fun hb => ?_) (fun hb => ?_)
        · skip
          have b20 := hb
          replace h := h.1 hb
          refine s_aload_n (q := 34) 19 0 rfl rfl ?_
          obtain ⟨c21, h⟩ := h
          refine n_getf (q := 37) (jj := 0) 20 11 0 rfl kX11_10 c21 ?_
          obtain ⟨c22, h⟩ := h
          refine n_getf (q := 40) (jj := 1) 21 1 1 rfl kX11_154 c22 ?_
          refine s_iload_n (q := 41) 22 1 rfl rfl ?_
          obtain ⟨c23, h⟩ := h
          obtain ⟨c24, h⟩ := h
          refine n_iald (q := 42) 23 rfl c23 c24 ?_
          refine s_istore_n (q := 43) (lv' := [(3, (0, E (F (F x0 0) 1) x1)), (0, (2, x0)), (1, (0, x1)), (2, (0, x2))]) 24 rfl rfl ?_
          refine s_aload_n (q := 44) 25 1 rfl rfl ?_
          refine n_getf (q := 47) (jj := 0) 26 11 0 rfl kX11_10 c21 ?_
          refine n_getf (q := 50) (jj := 1) 27 1 1 rfl kX11_154 c22 ?_
          refine s_iload_n (q := 51) 28 2 rfl rfl ?_
          refine s_iload_n (q := 52) 29 3 rfl rfl ?_
          obtain ⟨c25, h⟩ := h
          refine n_iast (q := 53) 30 rfl c25 c23 c24 ?_
          refine PW.nameE (fun E7 eE7 => ?_)
          replace h := h E7 eE7
          refine s_aload_n (q := 54) 31 1 rfl rfl ?_
          refine s_iload_n (q := 55) 32 0 rfl rfl ?_
          refine n_callV (N := mX11_accept) (as := [(0, E (F (F x0 0) 1) x1)]) (st := []) (q := 58) (d' := 0) 33 rfl uX11_accept kX11_157 rfl c21 ?_
          show PW l G 0 mX11_accept (0, 0) 0 [(0, (2, x0)), (1, (0, E (F (F x0 0) 1) x1))] [] (n, K, F, E7) _
          refine s_aload_n (q := 1) 0 0 rfl rfl ?_
          refine s_iconst (q := 2) 1 rfl ?_
          refine n_putf (q := 5) (jj := 16) 2 11 16 rfl kX11_97 c21 (Or.inl rfl) ?_
          refine PW.nameF (fun F8 eF8 => ?_)
          replace h := h F8 eF8
          refine s_iload_n (q := 6) 3 1 rfl rfl ?_
          refine s_iret 4 rfl rfl ?_
          show PW l G 1 mX11_terms bg 58 [(3, (0, E (F (F x0 0) 1) x1)), (0, (2, x0)), (1, (0, x1)), (2, (0, x2))] [(0, E (F (F x0 0) 1) x1)] (n, K, F8, E7) Q
          exact s_iret 34 rfl rfl h
        · skip
          have b20 := hb
          replace h := h.2 hb
          refine s_aload_n (q := 28) 15 0 rfl rfl ?_
          refine s_iconst (q := 29) 16 rfl ?_
          obtain ⟨c26, h⟩ := h
          refine n_callV (N := mX11_refuse) (as := [(0, (-1))]) (st := []) (q := 32) (d' := 0) 17 rfl uX11_refuse kX11_114 rfl c26 ?_
          show PW l G 0 mX11_refuse (0, 0) 0 [(0, (2, x0)), (1, (0, (-1)))] [] (n, K, F, E) _
          refine s_aload_n (q := 1) 0 0 rfl rfl ?_
          refine s_iload_n (q := 2) 1 1 rfl rfl ?_
          refine n_putf (q := 5) (jj := 16) 2 11 16 rfl kX11_97 c26 (Or.inl rfl) ?_
          refine PW.nameF (fun F9 eF9 => ?_)
          replace h := h F9 eF9
          refine s_iload_n (q := 6) 3 1 rfl rfl ?_
          refine s_bipush (q := 8) 4 rfl ?_
          refine s_icmp_lt (q := 11) (tgt := 18) 5 rfl rfl (fun hb => absurd hb (by decide)) (fun _ => ?_)
          refine s_iload_n (q := 12) 6 1 rfl rfl ?_
          refine n_ineg (q := 13) 7 rfl (by decide) ?_
          refine PW.top (b := 1) (by decide) ?_
          refine s_iconst (q := 14) 8 rfl ?_
          refine n_isub (q := 15) 9 rfl (by decide) ?_
          refine PW.top (b := 0) (by decide) ?_
          refine s_goto (tgt := 22) 10 rfl rfl ?_
          refine s_istore_n (q := 23) (lv' := [(2, (0, 0)), (0, (2, x0)), (1, (0, (-1)))]) 15 rfl rfl ?_
          refine s_iload_n (q := 24) 16 0 rfl rfl ?_
          refine s_if_lt (q := 27) (tgt := 42) 17 rfl rfl (fun hb => absurd hb (by decide)) (fun _ => ?_)
          refine s_iload_n (q := 28) 18 0 rfl rfl ?_
          refine s_iconst (q := 29) 19 rfl ?_
          refine s_icmp_ge (q := 32) (tgt := 42) 20 rfl rfl (fun hb => absurd hb (by decide)) (fun _ => ?_)
          refine s_aload_n (q := 33) 21 1 rfl rfl ?_
          refine n_getf (q := 36) (jj := 13) 22 11 13 rfl kX11_87 c26 ?_
          refine PW.top (b := F x0 13) (by exact (congrFun (congrFun eF9 _) _).trans (pUp_k (by decide))) ?_
          refine s_iload_n (q := 37) 23 0 rfl rfl ?_
          refine s_dup2 (q := 38) 24 rfl ?_
          obtain ⟨c27, h⟩ := h
          obtain ⟨c28, h⟩ := h
          refine n_iald (q := 39) 25 rfl c27 c28 ?_
          refine s_iconst (q := 40) 26 rfl ?_
          refine s_iadd (q := 41) 27 rfl ?_
          obtain ⟨c29, h⟩ := h
          refine n_iast (q := 42) 28 rfl c29 c27 c28 ?_
          refine PW.nameE (fun E10 eE10 => ?_)
          replace h := h E10 eE10
          refine s_iload_n (q := 43) 29 2 rfl rfl ?_
          refine s_iret 30 rfl rfl ?_
          show PW l G 1 mX11_terms bg 32 [(0, (2, x0)), (1, (0, x1)), (2, (0, x2))] [(0, (-1))] (n, K, F9, E10) Q
          exact s_iret 18 rfl rfl h
theorem vX11_feed_0 {l : Launch} {G : pG} {bg : Nat × Nat} {n : Nat} {K : Int → Nat × Nat} {F E : Int → Int → Int} {Q : Option pV → pM → Prop} (x0 x1 x2 x3 x4 x5 : Int) (h : (K x0).1 = 11 ∧ (K (F x0 9)).1 = 8 ∧ (-2147483648 ≤ (F (F x0 9) 1) + 20 ∧ (F (F x0 9) 1) + 20 < 2147483648) ∧ (((F (F x0 9) 1) + 20 ≤ 400 → PC l G 0 mX8_put (0, 0) [(2, F x0 9), (0, x1)] (n, K, F, E) (fun r μ => PW l G 1 mX11_feed bg 26 [(0, (2, x0)), (2, (0, x2)), (3, (0, x3)), (4, (0, x4)), (5, (0, x5))] (r.toList ++ []) μ Q)) ∧ (¬ ((F (F x0 9) 1) + 20 ≤ 400) → Q (some (0, (-1))) (n, K, F, E)))) : PW l G 1 mX11_feed bg 0 [(0, (2, x0)), (1, (0, x1)), (2, (0, x2)), (3, (0, x3)), (4, (0, x4)), (5, (0, x5))] [] (n, K, F, E) Q := by
  refine s_aload_n (q := 1) 0 0 rfl rfl ?_
  obtain ⟨c1, h⟩ := h
  refine n_getf (q := 4) (jj := 9) 1 11 9 rfl kX11_65 c1 ?_
  obtain ⟨c2, h⟩ := h
  refine n_getf (q := 7) (jj := 1) 2 8 1 rfl kX11_160 c2 ?_
  refine s_bipush (q := 9) 3 rfl ?_
  obtain ⟨c3, h⟩ := h
  refine n_iadd (q := 10) 4 rfl c3 ?_
  refine s_sipush (q := 13) 5 rfl ?_
  refine s_icmp_le (q := 16) (tgt := 18) 6 rfl rfl (fun hb => ?_) (fun hb => ?_)
  · skip
    have b4 := hb
    replace h := h.1 hb
    refine s_aload_n (q := 19) 9 0 rfl rfl ?_
    refine n_getf (q := 22) (jj := 9) 10 11 9 rfl kX11_65 c1 ?_
    refine s_iload_n (q := 23) 11 1 rfl rfl ?_
    refine PW.pick [0, 2, 3, 4, 5] rfl ?_
    exact n_callV (N := mX8_put) (as := [(0, x1)]) (st := []) (q := 26) (d' := 0) 12 rfl uX8_put kX11_165 rfl c2 h
  · skip
    have b4 := hb
    replace h := h.2 hb
    refine s_iconst (q := 17) 7 rfl ?_
    exact s_iret 8 rfl rfl h
theorem vX11_feed_26 {l : Launch} {G : pG} {bg : Nat × Nat} {n : Nat} {K : Int → Nat × Nat} {F E : Int → Int → Int} {Q : Option pV → pM → Prop} (x0 x2 x3 x4 x5 : Int) (h : (K x0).1 = 11 ∧ (K (F x0 9)).1 = 8 ∧ PC l G 0 mX8_put (0, 0) [(2, F x0 9), (0, x2)] (n, K, F, E) (fun r μ => PW l G 1 mX11_feed bg 34 [(0, (2, x0)), (3, (0, x3)), (4, (0, x4)), (5, (0, x5))] (r.toList ++ []) μ Q)) : PW l G 1 mX11_feed bg 26 [(0, (2, x0)), (2, (0, x2)), (3, (0, x3)), (4, (0, x4)), (5, (0, x5))] [] (n, K, F, E) Q := by
  refine s_aload_n (q := 27) 13 0 rfl rfl ?_
  obtain ⟨c1, h⟩ := h
  refine n_getf (q := 30) (jj := 9) 14 11 9 rfl kX11_65 c1 ?_
  refine s_iload_n (q := 31) 15 1 rfl rfl ?_
  obtain ⟨c2, h⟩ := h
  refine PW.pick [0, 2, 3, 4] rfl ?_
  exact n_callV (N := mX8_put) (as := [(0, x2)]) (st := []) (q := 34) (d' := 0) 16 rfl uX8_put kX11_165 rfl c2 h
theorem vX11_feed_34 {l : Launch} {G : pG} {bg : Nat × Nat} {n : Nat} {K : Int → Nat × Nat} {F E : Int → Int → Int} {Q : Option pV → pM → Prop} (x0 x3 x4 x5 : Int) (h : (K x0).1 = 11 ∧ (K (F x0 9)).1 = 8 ∧ PC l G 0 mX8_put (0, 0) [(2, F x0 9), (0, x3)] (n, K, F, E) (fun r μ => PW l G 1 mX11_feed bg 42 [(0, (2, x0)), (4, (0, x4)), (5, (0, x5))] (r.toList ++ []) μ Q)) : PW l G 1 mX11_feed bg 34 [(0, (2, x0)), (3, (0, x3)), (4, (0, x4)), (5, (0, x5))] [] (n, K, F, E) Q := by
  refine s_aload_n (q := 35) 17 0 rfl rfl ?_
  obtain ⟨c1, h⟩ := h
  refine n_getf (q := 38) (jj := 9) 18 11 9 rfl kX11_65 c1 ?_
  refine s_iload_n (q := 39) 19 1 rfl rfl ?_
  obtain ⟨c2, h⟩ := h
  refine PW.pick [0, 2, 3] rfl ?_
  exact n_callV (N := mX8_put) (as := [(0, x3)]) (st := []) (q := 42) (d' := 0) 20 rfl uX8_put kX11_165 rfl c2 h
theorem vX11_feed_42 {l : Launch} {G : pG} {bg : Nat × Nat} {n : Nat} {K : Int → Nat × Nat} {F E : Int → Int → Int} {Q : Option pV → pM → Prop} (x0 x4 x5 : Int) (h : (K x0).1 = 11 ∧ (K (F x0 9)).1 = 8 ∧ PC l G 0 mX8_put (0, 0) [(2, F x0 9), (0, x4)] (n, K, F, E) (fun r μ => PW l G 1 mX11_feed bg 51 [(0, (2, x0)), (5, (0, x5))] (r.toList ++ []) μ Q)) : PW l G 1 mX11_feed bg 42 [(0, (2, x0)), (4, (0, x4)), (5, (0, x5))] [] (n, K, F, E) Q := by
  refine s_aload_n (q := 43) 21 0 rfl rfl ?_
  obtain ⟨c1, h⟩ := h
  refine n_getf (q := 46) (jj := 9) 22 11 9 rfl kX11_65 c1 ?_
  refine s_iload (q := 48) 23 1 rfl rfl ?_
  obtain ⟨c2, h⟩ := h
  refine PW.pick [0, 2] rfl ?_
  exact n_callV (N := mX8_put) (as := [(0, x4)]) (st := []) (q := 51) (d' := 0) 24 rfl uX8_put kX11_165 rfl c2 h
theorem vX11_feed_51 {l : Launch} {G : pG} {bg : Nat × Nat} {n : Nat} {K : Int → Nat × Nat} {F E : Int → Int → Int} {Q : Option pV → pM → Prop} (x0 x5 : Int) (h : (K x0).1 = 11 ∧ (K (F x0 9)).1 = 8 ∧ PC l G 0 mX8_put (0, 0) [(2, F x0 9), (0, x5)] (n, K, F, E) (fun r μ => PW l G 1 mX11_feed bg 60 [(0, (2, x0))] (r.toList ++ []) μ Q)) : PW l G 1 mX11_feed bg 51 [(0, (2, x0)), (5, (0, x5))] [] (n, K, F, E) Q := by
  refine s_aload_n (q := 52) 25 0 rfl rfl ?_
  obtain ⟨c1, h⟩ := h
  refine n_getf (q := 55) (jj := 9) 26 11 9 rfl kX11_65 c1 ?_
  refine s_iload (q := 57) 27 1 rfl rfl ?_
  obtain ⟨c2, h⟩ := h
  refine PW.pick [0] rfl ?_
  exact n_callV (N := mX8_put) (as := [(0, x5)]) (st := []) (q := 60) (d' := 0) 28 rfl uX8_put kX11_165 rfl c2 h
theorem vX11_feed_60 {l : Launch} {G : pG} {bg : Nat × Nat} {n : Nat} {K : Int → Nat × Nat} {F E : Int → Int → Int} {Q : Option pV → pM → Prop} (x0 : Int) (h : (K x0).1 = 11 ∧ (K (F x0 9)).1 = 8 ∧ Q (some (0, F (F x0 9) 1)) (n, K, F, E)) : PW l G 1 mX11_feed bg 60 [(0, (2, x0))] [] (n, K, F, E) Q := by
  refine s_aload_n (q := 61) 29 0 rfl rfl ?_
  obtain ⟨c1, h⟩ := h
  refine n_getf (q := 64) (jj := 9) 30 11 9 rfl kX11_65 c1 ?_
  obtain ⟨c2, h⟩ := h
  refine n_getf (q := 67) (jj := 1) 31 8 1 rfl kX11_160 c2 ?_
  exact s_iret 32 rfl rfl h
theorem vX11_end_0 {l : Launch} {G : pG} {bg : Nat × Nat} {n : Nat} {K : Int → Nat × Nat} {F E : Int → Int → Int} {Q : Option pV → pM → Prop} (x0 x1 : Int) (h : ((x1 < 0 → Q (some (0, (-1))) (n, K, F, E)) ∧ (¬ (x1 < 0) → (K x0).1 = 11 ∧ (K (F x0 9)).1 = 8 ∧ ((x1 ≤ F (F x0 9) 1 → (∀ F1, F1 = pUp F (F x0 9) 1 x1 → Q (some (0, x1)) (n, K, F1, E))) ∧ (¬ (x1 ≤ F (F x0 9) 1) → Q (some (0, (-1))) (n, K, F, E)))))) : PW l G 0 mX11_end bg 0 [(0, (2, x0)), (1, (0, x1))] [] (n, K, F, E) Q := by
  refine s_iload_n (q := 1) 0 1 rfl rfl ?_
  refine s_if_lt (q := 4) (tgt := 15) 1 rfl rfl (fun hb => ?_) (fun hb => ?_)
  · skip
    have b1 := hb
    replace h := h.1 hb
    refine s_iconst (q := 16) 7 rfl ?_
    exact s_iret 8 rfl rfl h
  · skip
    have b1 := hb
    replace h := h.2 hb
    refine s_iload_n (q := 5) 2 1 rfl rfl ?_
    refine s_aload_n (q := 6) 3 0 rfl rfl ?_
    obtain ⟨c2, h⟩ := h
    refine n_getf (q := 9) (jj := 9) 4 11 9 rfl kX11_65 c2 ?_
    obtain ⟨c3, h⟩ := h
    refine n_getf (q := 12) (jj := 1) 5 8 1 rfl kX11_160 c3 ?_
    refine s_icmp_le (q := 15) (tgt := 17) 6 rfl rfl (fun hb => ?_) (fun hb => ?_)
    · skip
      have b4 := hb
      replace h := h.1 hb
      refine s_aload_n (q := 18) 9 0 rfl rfl ?_
      refine n_getf (q := 21) (jj := 9) 10 11 9 rfl kX11_65 c2 ?_
      refine s_iload_n (q := 22) 11 1 rfl rfl ?_
      refine n_putf (q := 25) (jj := 1) 12 8 1 rfl kX11_160 c3 (Or.inl rfl) ?_
      refine PW.nameF (fun F1 eF1 => ?_)
      replace h := h F1 eF1
      refine s_iload_n (q := 26) 13 1 rfl rfl ?_
      exact s_iret 14 rfl rfl h
    · skip
      have b4 := hb
      replace h := h.2 hb
      refine s_iconst (q := 16) 7 rfl ?_
      exact s_iret 8 rfl rfl h
theorem vX11_row_0 {l : Launch} {G : pG} {bg : Nat × Nat} {n : Nat} {K : Int → Nat × Nat} {F E : Int → Int → Int} {Q : Option pV → pM → Prop} (x0 : Int) (h : (K x0).1 = 11 ∧ (K (F x0 9)).1 = 8 ∧ ((¬ (F (F x0 9) 1) = 0 → PW l G 32 mX11_row bg 23 [(0, (2, x0)), (1, (0, 0)), (2, (0, 0)), (3, (0, 0))] [] (n, K, F, E) Q) ∧ ((F (F x0 9) 1) = 0 → (∀ F1, F1 = pUp F x0 16 (-6) → (K (F x0 13)).1 = 20 ∧ ((0 : Int) ≤ 4 ∧ 4 < ((K (F x0 13)).2 : Int)) ∧ (0 : Int) ≤ F x0 13 ∧ (∀ E2, E2 = pUp E (F x0 13) 4 (w32 ((E (F x0 13) 4) + 1)) → Q (some (0, (-6))) (n, K, F1, E2)))))) : PW l G 32 mX11_row bg 0 [(0, (2, x0))] [] (n, K, F, E) Q := by
  refine s_aload_n (q := 1) 0 0 rfl rfl ?_
  obtain ⟨c1, h⟩ := h
  refine n_getf (q := 4) (jj := 9) 1 11 9 rfl kX11_65 c1 ?_
  obtain ⟨c2, h⟩ := h
  refine n_getf (q := 7) (jj := 1) 2 8 1 rfl kX11_160 c2 ?_
  refine s_if_ne (q := 10) (tgt := 17) 3 rfl rfl (fun hb => ?_) (fun hb => ?_)
  · skip
    have b3 := hb
    replace h := h.1 hb
    refine s_iconst (q := 18) 8 rfl ?_
    refine s_istore_n (q := 19) (lv' := [(1, (0, 0)), (0, (2, x0))]) 9 rfl rfl ?_
    refine s_iconst (q := 20) 10 rfl ?_
    refine s_istore_n (q := 21) (lv' := [(2, (0, 0)), (1, (0, 0)), (0, (2, x0))]) 11 rfl rfl ?_
    refine s_iconst (q := 22) 12 rfl ?_
    refine s_istore_n (q := 23) (lv' := [(3, (0, 0)), (2, (0, 0)), (1, (0, 0)), (0, (2, x0))]) 13 rfl rfl ?_
    refine PW.pick [3, 2, 1, 0] rfl ?_
    exact h
  · have hb := Classical.not_not.mp hb
    have b3 := hb
    replace h := h.2 hb
    refine s_aload_n (q := 11) 4 0 rfl rfl ?_
    refine s_bipush (q := 13) 5 rfl ?_
    refine n_callV (N := mX11_refuse) (as := [(0, (-6))]) (st := []) (q := 16) (d' := 0) 6 rfl uX11_refuse kX11_114 rfl c1 ?_
    show PW l G 0 mX11_refuse (0, 0) 0 [(0, (2, x0)), (1, (0, (-6)))] [] (n, K, F, E) _
    refine s_aload_n (q := 1) 0 0 rfl rfl ?_
    refine s_iload_n (q := 2) 1 1 rfl rfl ?_
    refine n_putf (q := 5) (jj := 16) 2 11 16 rfl kX11_97 c1 (Or.inl rfl) ?_
    refine PW.nameF (fun F1 eF1 => ?_)
    replace h := h F1 eF1
    refine s_iload_n (q := 6) 3 1 rfl rfl ?_
    refine s_bipush (q := 8) 4 rfl ?_
    refine s_icmp_lt (q := 11) (tgt := 18) 5 rfl rfl (fun _ => ?_) (fun hb => absurd (by decide) hb)
    refine s_iload_n (q := 19) 11 1 rfl rfl ?_
    refine n_ineg (q := 20) 12 rfl (by decide) ?_
    refine PW.top (b := 6) (by decide) ?_
    refine s_iconst (q := 21) 13 rfl ?_
    refine n_isub (q := 22) 14 rfl (by decide) ?_
    refine PW.top (b := 4) (by decide) ?_
    refine s_istore_n (q := 23) (lv' := [(2, (0, 4)), (0, (2, x0)), (1, (0, (-6)))]) 15 rfl rfl ?_
    refine s_iload_n (q := 24) 16 0 rfl rfl ?_
    refine s_if_lt (q := 27) (tgt := 42) 17 rfl rfl (fun hb => absurd hb (by decide)) (fun _ => ?_)
    refine s_iload_n (q := 28) 18 0 rfl rfl ?_
    refine s_iconst (q := 29) 19 rfl ?_
    refine s_icmp_ge (q := 32) (tgt := 42) 20 rfl rfl (fun hb => absurd hb (by decide)) (fun _ => ?_)
    refine s_aload_n (q := 33) 21 1 rfl rfl ?_
    refine n_getf (q := 36) (jj := 13) 22 11 13 rfl kX11_87 c1 ?_
    refine PW.top (b := F x0 13) (by exact (congrFun (congrFun eF1 _) _).trans (pUp_k (by decide))) ?_
    refine s_iload_n (q := 37) 23 0 rfl rfl ?_
    refine s_dup2 (q := 38) 24 rfl ?_
    obtain ⟨c4, h⟩ := h
    obtain ⟨c5, h⟩ := h
    refine n_iald (q := 39) 25 rfl c4 c5 ?_
    refine s_iconst (q := 40) 26 rfl ?_
    refine s_iadd (q := 41) 27 rfl ?_
    obtain ⟨c6, h⟩ := h
    refine n_iast (q := 42) 28 rfl c6 c4 c5 ?_
    refine PW.nameE (fun E2 eE2 => ?_)
    replace h := h E2 eE2
    refine s_iload_n (q := 43) 29 2 rfl rfl ?_
    refine s_iret 30 rfl rfl ?_
    show PW l G 32 mX11_row bg 16 [(0, (2, x0))] [(0, (-6))] (n, K, F1, E2) Q
    exact s_iret 7 rfl rfl h
theorem vX11_row_23 {l : Launch} {G : pG} {bg : Nat × Nat} {n : Nat} {K : Int → Nat × Nat} {F E : Int → Int → Int} {Q : Option pV → pM → Prop} (x0 x1 x2 x3 : Int) (h : (K x0).1 = 11 ∧ (K (F x0 9)).1 = 8 ∧ ((F (F x0 9) 1 ≤ x3 → (∀ F1, F1 = pUp F (F x0 9) 1 0 → (-2147483648 ≤ x2 - x1 ∧ x2 - x1 < 2147483648) ∧ (∀ F2, F2 = pUp F1 x0 18 (x2 - x1) → (K (F x0 3)).1 = 3 ∧ (∀ F3, F3 = pUp F2 (F x0 3) 3 0 → (∀ F4, F4 = pUp F3 x0 16 0 → Q (some (0, x1)) (n, K, F4, E)))))) ∧ (¬ (F (F x0 9) 1 ≤ x3) → (-2147483648 ≤ x2 + 1 ∧ x2 + 1 < 2147483648) ∧ (-2147483648 ≤ x3 + 2 ∧ x3 + 2 < 2147483648) ∧ ((F (F x0 9) 1 ≤ x3 + 2 → (-2147483648 ≤ x3 + 3 ∧ x3 + 3 < 2147483648) ∧ PW l G 32 mX11_row bg 23 [(0, (2, x0)), (1, (0, x1)), (2, (0, x2 + 1)), (3, (0, x3 + 3))] [] (n, K, F, E) Q) ∧ (¬ (F (F x0 9) 1 ≤ x3 + 2) → (K (F x0 0)).1 = 1 ∧ (0 : Int) ≤ F (F x0 9) 0 ∧ (K (F (F x0 9) 0)).1 = 22 ∧ ((0 : Int) ≤ x3 ∧ x3 < ((K (F (F x0 9) 0)).2 : Int)) ∧ (-2147483648 ≤ x3 + 1 ∧ x3 + 1 < 2147483648) ∧ ((0 : Int) ≤ x3 + 1 ∧ x3 + 1 < ((K (F (F x0 9) 0)).2 : Int)) ∧ ((0 : Int) ≤ x3 + 2 ∧ x3 + 2 < ((K (F (F x0 9) 0)).2 : Int)) ∧ PC l G 31 mX11_comeTo (0, 0) [(2, x0), (2, F (F x0 0) 0), (2, (-1)), (0, bAnd (E (F (F x0 9) 0) x3) 255), (0, bAnd (E (F (F x0 9) 0) (x3 + 1)) 255), (0, bAnd (E (F (F x0 9) 0) (x3 + 2)) 255)] (n, K, F, E) (fun r μ => PW l G 32 mX11_row bg 90 [(0, (2, x0)), (1, (0, x1)), (2, (0, x2 + 1)), (3, (0, x3))] (r.toList ++ []) μ Q)))))) : PW l G 32 mX11_row bg 23 [(0, (2, x0)), (1, (0, x1)), (2, (0, x2)), (3, (0, x3))] [] (n, K, F, E) Q := by
  refine s_iload_n (q := 24) 14 3 rfl rfl ?_
  refine s_aload_n (q := 25) 15 0 rfl rfl ?_
  obtain ⟨c1, h⟩ := h
  refine n_getf (q := 28) (jj := 9) 16 11 9 rfl kX11_65 c1 ?_
  obtain ⟨c2, h⟩ := h
  refine n_getf (q := 31) (jj := 1) 17 8 1 rfl kX11_160 c2 ?_
  refine s_icmp_ge (q := 34) (tgt := 102) 18 rfl rfl (fun hb => ?_) (fun hb => ?_)
  · skip
    have b3 := hb
    replace h := h.1 hb
    refine s_aload_n (q := 103) 53 0 rfl rfl ?_
    refine n_getf (q := 106) (jj := 9) 54 11 9 rfl kX11_65 c1 ?_
    refine s_iconst (q := 107) 55 rfl ?_
    refine n_putf (q := 110) (jj := 1) 56 8 1 rfl kX11_160 c2 (Or.inl rfl) ?_
    refine PW.nameF (fun F1 eF1 => ?_)
    replace h := h F1 eF1
    refine s_aload_n (q := 111) 57 0 rfl rfl ?_
    refine s_iload_n (q := 112) 58 2 rfl rfl ?_
    refine s_iload_n (q := 113) 59 1 rfl rfl ?_
    obtain ⟨c4, h⟩ := h
    refine n_isub (q := 114) 60 rfl c4 ?_
    refine n_putf (q := 117) (jj := 18) 61 11 18 rfl kX11_104 c1 (Or.inl rfl) ?_
    refine PW.nameF (fun F2 eF2 => ?_)
    replace h := h F2 eF2
    refine s_aload_n (q := 118) 62 0 rfl rfl ?_
    refine n_getf (q := 121) (jj := 3) 63 11 3 rfl kX11_27 c1 ?_
    refine PW.top (b := F x0 3) (by refine (congrFun (congrFun eF2 _) _).trans ((pUp_k (by decide)).trans ?_); exact (congrFun (congrFun eF1 _) _).trans (pUp_K c2 c1 (by decide))) ?_
    refine s_iconst (q := 122) 64 rfl ?_
    obtain ⟨c5, h⟩ := h
    refine n_putf (q := 125) (jj := 3) 65 3 3 rfl kX11_176 c5 (Or.inl rfl) ?_
    refine PW.nameF (fun F3 eF3 => ?_)
    replace h := h F3 eF3
    refine s_aload_n (q := 126) 66 0 rfl rfl ?_
    refine s_iload_n (q := 127) 67 1 rfl rfl ?_
    refine n_callV (N := mX11_accept) (as := [(0, x1)]) (st := []) (q := 130) (d' := 0) 68 rfl uX11_accept kX11_157 rfl c1 ?_
    show PW l G 0 mX11_accept (0, 0) 0 [(0, (2, x0)), (1, (0, x1))] [] (n, K, F3, E) _
    refine s_aload_n (q := 1) 0 0 rfl rfl ?_
    refine s_iconst (q := 2) 1 rfl ?_
    refine n_putf (q := 5) (jj := 16) 2 11 16 rfl kX11_97 c1 (Or.inl rfl) ?_
    refine PW.nameF (fun F4 eF4 => ?_)
    replace h := h F4 eF4
    refine s_iload_n (q := 6) 3 1 rfl rfl ?_
    refine s_iret 4 rfl rfl ?_
    show PW l G 32 mX11_row bg 130 [(0, (2, x0)), (1, (0, x1)), (2, (0, x2)), (3, (0, x3))] [(0, x1)] (n, K, F4, E) Q
    exact s_iret 69 rfl rfl h
  · skip
    have b3 := hb
    replace h := h.2 hb
    obtain ⟨c6, h⟩ := h
    refine n_iinc (q := 37) (lv' := [(2, (0, x2 + 1)), (0, (2, x0)), (1, (0, x1)), (3, (0, x3))]) 19 2 rfl rfl c6 rfl ?_
    refine s_iload_n (q := 38) 20 3 rfl rfl ?_
    refine s_iconst (q := 39) 21 rfl ?_
    obtain ⟨c7, h⟩ := h
    refine n_iadd (q := 40) 22 rfl c7 ?_
    refine s_aload_n (q := 41) 23 1 rfl rfl ?_
    refine n_getf (q := 44) (jj := 9) 24 11 9 rfl kX11_65 c1 ?_
    refine n_getf (q := 47) (jj := 1) 25 8 1 rfl kX11_160 c2 ?_
    refine s_icmp_ge (q := 50) (tgt := 96) 26 rfl rfl (fun hb => ?_) (fun hb => ?_)
    · skip
      have b8 := hb
      replace h := h.1 hb
      obtain ⟨c9, h⟩ := h
      refine n_iinc (q := 99) (lv' := [(3, (0, x3 + 3)), (2, (0, x2 + 1)), (0, (2, x0)), (1, (0, x1))]) 51 3 rfl rfl c9 rfl ?_
      refine s_goto (tgt := 23) 52 rfl rfl ?_
      refine PW.pick [2, 3, 1, 0] rfl ?_
      exact h
    · skip
      have b8 := hb
      replace h := h.2 hb
      refine s_aload_n (q := 51) 27 1 rfl rfl ?_
      refine s_aload_n (q := 52) 28 1 rfl rfl ?_
      refine n_getf (q := 55) (jj := 0) 29 11 0 rfl kX11_10 c1 ?_
      obtain ⟨c10, h⟩ := h
      refine n_getf (q := 58) (jj := 0) 30 1 0 rfl kX11_125 c10 ?_
      refine s_null (q := 59) 31 rfl ?_
      refine s_aload_n (q := 60) 32 1 rfl rfl ?_
      refine n_getf (q := 63) (jj := 9) 33 11 9 rfl kX11_65 c1 ?_
      refine s_iload_n (q := 64) 34 3 rfl rfl ?_
      refine n_callV (N := mX8_at) (as := [(0, x3)]) (st := [(2, (-1)), (2, F (F x0 0) 0), (2, x0)]) (q := 67) (d' := 0) 35 rfl uX8_at kX11_169 rfl c2 ?_
      show PW l G 0 mX8_at (0, 0) 0 [(0, (2, F x0 9)), (1, (0, x3))] [] (n, K, F, E) _
      refine s_aload_n (q := 1) 0 0 rfl rfl ?_
      refine n_getf (q := 4) (jj := 0) 1 8 0 rfl kX8_9 c2 ?_
      refine s_iload_n (q := 5) 2 1 rfl rfl ?_
      obtain ⟨c11, h⟩ := h
      obtain ⟨c12, h⟩ := h
      obtain ⟨c13, h⟩ := h
      refine n_bald (q := 6) 3 2 rfl c11 c12 c13 ?_
      refine s_sipush (q := 9) 4 rfl ?_
      refine s_iand (q := 10) 5 rfl ?_
      refine s_iret 6 rfl rfl ?_
      show PW l G 32 mX11_row bg 67 [(2, (0, x2 + 1)), (0, (2, x0)), (1, (0, x1)), (3, (0, x3))] [(0, bAnd (E (F (F x0 9) 0) x3) 255), (2, (-1)), (2, F (F x0 0) 0), (2, x0)] (n, K, F, E) Q
      refine s_aload_n (q := 68) 36 1 rfl rfl ?_
      refine n_getf (q := 71) (jj := 9) 37 11 9 rfl kX11_65 c1 ?_
      refine s_iload_n (q := 72) 38 3 rfl rfl ?_
      refine s_iconst (q := 73) 39 rfl ?_
      obtain ⟨c14, h⟩ := h
      refine n_iadd (q := 74) 40 rfl c14 ?_
      refine n_callV (N := mX8_at) (as := [(0, x3 + 1)]) (st := [(0, bAnd (E (F (F x0 9) 0) x3) 255), (2, (-1)), (2, F (F x0 0) 0), (2, x0)]) (q := 77) (d' := 0) 41 rfl uX8_at kX11_169 rfl c2 ?_
      show PW l G 0 mX8_at (0, 0) 0 [(0, (2, F x0 9)), (1, (0, x3 + 1))] [] (n, K, F, E) _
      refine s_aload_n (q := 1) 0 0 rfl rfl ?_
      refine n_getf (q := 4) (jj := 0) 1 8 0 rfl kX8_9 c2 ?_
      refine s_iload_n (q := 5) 2 1 rfl rfl ?_
      obtain ⟨c15, h⟩ := h
      refine n_bald (q := 6) 3 2 rfl c11 c12 c15 ?_
      refine s_sipush (q := 9) 4 rfl ?_
      refine s_iand (q := 10) 5 rfl ?_
      refine s_iret 6 rfl rfl ?_
      show PW l G 32 mX11_row bg 77 [(2, (0, x2 + 1)), (0, (2, x0)), (1, (0, x1)), (3, (0, x3))] [(0, bAnd (E (F (F x0 9) 0) (x3 + 1)) 255), (0, bAnd (E (F (F x0 9) 0) x3) 255), (2, (-1)), (2, F (F x0 0) 0), (2, x0)] (n, K, F, E) Q
      refine s_aload_n (q := 78) 42 1 rfl rfl ?_
      refine n_getf (q := 81) (jj := 9) 43 11 9 rfl kX11_65 c1 ?_
      refine s_iload_n (q := 82) 44 3 rfl rfl ?_
      refine s_iconst (q := 83) 45 rfl ?_
      refine n_iadd (q := 84) 46 rfl c7 ?_
      refine n_callV (N := mX8_at) (as := [(0, x3 + 2)]) (st := [(0, bAnd (E (F (F x0 9) 0) (x3 + 1)) 255), (0, bAnd (E (F (F x0 9) 0) x3) 255), (2, (-1)), (2, F (F x0 0) 0), (2, x0)]) (q := 87) (d' := 0) 47 rfl uX8_at kX11_169 rfl c2 ?_
      show PW l G 0 mX8_at (0, 0) 0 [(0, (2, F x0 9)), (1, (0, x3 + 2))] [] (n, K, F, E) _
      refine s_aload_n (q := 1) 0 0 rfl rfl ?_
      refine n_getf (q := 4) (jj := 0) 1 8 0 rfl kX8_9 c2 ?_
      refine s_iload_n (q := 5) 2 1 rfl rfl ?_
      obtain ⟨c16, h⟩ := h
      refine n_bald (q := 6) 3 2 rfl c11 c12 c16 ?_
      refine s_sipush (q := 9) 4 rfl ?_
      refine s_iand (q := 10) 5 rfl ?_
      refine s_iret 6 rfl rfl ?_
      show PW l G 32 mX11_row bg 87 [(2, (0, x2 + 1)), (0, (2, x0)), (1, (0, x1)), (3, (0, x3))] [(0, bAnd (E (F (F x0 9) 0) (x3 + 2)) 255), (0, bAnd (E (F (F x0 9) 0) (x3 + 1)) 255), (0, bAnd (E (F (F x0 9) 0) x3) 255), (2, (-1)), (2, F (F x0 0) 0), (2, x0)] (n, K, F, E) Q
      refine PW.pick [1, 2, 0, 3] rfl ?_
      exact n_callV (N := mX11_comeTo) (as := [(2, F (F x0 0) 0), (2, (-1)), (0, bAnd (E (F (F x0 9) 0) x3) 255), (0, bAnd (E (F (F x0 9) 0) (x3 + 1)) 255), (0, bAnd (E (F (F x0 9) 0) (x3 + 2)) 255)]) (st := []) (q := 90) (d' := 31) 48 rfl uX11_comeTo kX11_172 rfl c1 h
theorem vX11_row_90 {l : Launch} {G : pG} {bg : Nat × Nat} {n : Nat} {K : Int → Nat × Nat} {F E : Int → Int → Int} {Q : Option pV → pM → Prop} (x0 x1 x2 x3 s0 : Int) (h : ((s0 < 0 → (-2147483648 ≤ x3 + 3 ∧ x3 + 3 < 2147483648) ∧ PW l G 32 mX11_row bg 23 [(0, (2, x0)), (1, (0, x1)), (2, (0, x2)), (3, (0, x3 + 3))] [] (n, K, F, E) Q) ∧ (¬ (s0 < 0) → (-2147483648 ≤ x1 + 1 ∧ x1 + 1 < 2147483648) ∧ (-2147483648 ≤ x3 + 3 ∧ x3 + 3 < 2147483648) ∧ PW l G 32 mX11_row bg 23 [(0, (2, x0)), (1, (0, x1 + 1)), (2, (0, x2)), (3, (0, x3 + 3))] [] (n, K, F, E) Q))) : PW l G 32 mX11_row bg 90 [(0, (2, x0)), (1, (0, x1)), (2, (0, x2)), (3, (0, x3))] [(0, s0)] (n, K, F, E) Q := by
  refine s_if_lt (q := 93) (tgt := 96) 49 rfl rfl (fun hb => ?_) (fun hb => ?_)
  · skip
    have b1 := hb
    replace h := h.1 hb
    obtain ⟨c2, h⟩ := h
    refine n_iinc (q := 99) (lv' := [(3, (0, x3 + 3)), (0, (2, x0)), (1, (0, x1)), (2, (0, x2))]) 51 3 rfl rfl c2 rfl ?_
    refine s_goto (tgt := 23) 52 rfl rfl ?_
    refine PW.pick [1, 2, 3, 0] rfl ?_
    exact h
  · skip
    have b1 := hb
    replace h := h.2 hb
    obtain ⟨c3, h⟩ := h
    refine n_iinc (q := 96) (lv' := [(1, (0, x1 + 1)), (0, (2, x0)), (2, (0, x2)), (3, (0, x3))]) 50 1 rfl rfl c3 rfl ?_
    obtain ⟨c4, h⟩ := h
    refine n_iinc (q := 99) (lv' := [(3, (0, x3 + 3)), (1, (0, x1 + 1)), (0, (2, x0)), (2, (0, x2))]) 51 3 rfl rfl c4 rfl ?_
    refine s_goto (tgt := 23) 52 rfl rfl ?_
    refine PW.pick [2, 1, 3, 0] rfl ?_
    exact h
theorem vX11_strays_0 {l : Launch} {G : pG} {bg : Nat × Nat} {n : Nat} {K : Int → Nat × Nat} {F E : Int → Int → Int} {Q : Option pV → pM → Prop} (x0 : Int) (h : (K x0).1 = 11 ∧ Q (some (0, F x0 18)) (n, K, F, E)) : PW l G 0 mX11_strays bg 0 [(0, (2, x0))] [] (n, K, F, E) Q := by
  refine s_aload_n (q := 1) 0 0 rfl rfl ?_
  obtain ⟨c1, h⟩ := h
  refine n_getf (q := 4) (jj := 18) 1 11 18 rfl kX11_104 c1 ?_
  exact s_iret 2 rfl rfl h
theorem vX11_orders_0 {l : Launch} {G : pG} {bg : Nat × Nat} {n : Nat} {K : Int → Nat × Nat} {F E : Int → Int → Int} {Q : Option pV → pM → Prop} (x0 : Int) (h : (K x0).1 = 11 ∧ (K (F x0 12)).1 = 7 ∧ (∀ F1, F1 = pUp F (F x0 12) 3 0 → (∀ F2, F2 = pUp F1 (F x0 12) 4 (-1) → (∀ F3, F3 = pUp F2 (F x0 12) 5 (-1) → (K (F x0 8)).1 = 5 ∧ PC l G 82 mX5_read (0, 0) [(2, F x0 8), (0, 0)] (n, K, F3, E) (fun r μ => PW l G 83 mX11_orders bg 16 [(0, (2, x0))] (r.toList ++ [(2, x0)]) μ Q))))) : PW l G 83 mX11_orders bg 0 [(0, (2, x0))] [] (n, K, F, E) Q := by
  refine s_aload_n (q := 1) 0 0 rfl rfl ?_
  obtain ⟨c1, h⟩ := h
  refine n_getf (q := 4) (jj := 12) 1 11 12 rfl kX11_83 c1 ?_
  obtain ⟨c2, h⟩ := h
  refine n_callV (N := mX7_begin) (as := []) (st := []) (q := 7) (d' := 0) 2 rfl uX7_begin kX11_199 rfl c2 ?_
  show PW l G 0 mX7_begin (0, 0) 0 [(0, (2, F x0 12))] [] (n, K, F, E) _
  refine s_aload_n (q := 1) 0 0 rfl rfl ?_
  refine s_iconst (q := 2) 1 rfl ?_
  refine n_putf (q := 5) (jj := 3) 2 7 3 rfl kX7_27 c2 (Or.inl rfl) ?_
  refine PW.nameF (fun F1 eF1 => ?_)
  replace h := h F1 eF1
  refine s_aload_n (q := 6) 3 0 rfl rfl ?_
  refine s_iconst (q := 7) 4 rfl ?_
  refine n_putf (q := 10) (jj := 4) 5 7 4 rfl kX7_31 c2 (Or.inl rfl) ?_
  refine PW.nameF (fun F2 eF2 => ?_)
  replace h := h F2 eF2
  refine s_aload_n (q := 11) 6 0 rfl rfl ?_
  refine s_iconst (q := 12) 7 rfl ?_
  refine n_putf (q := 15) (jj := 5) 8 7 5 rfl kX7_34 c2 (Or.inl rfl) ?_
  refine PW.nameF (fun F3 eF3 => ?_)
  replace h := h F3 eF3
  refine s_vret 9 rfl rfl ?_
  show PW l G 83 mX11_orders bg 7 [(0, (2, x0))] [] (n, K, F3, E) Q
  refine s_aload_n (q := 8) 3 0 rfl rfl ?_
  refine s_aload_n (q := 9) 4 0 rfl rfl ?_
  refine n_getf (q := 12) (jj := 8) 5 11 8 rfl kX11_51 c1 ?_
  refine PW.top (b := F x0 8) (by refine (congrFun (congrFun eF3 _) _).trans ((pUp_K c2 c1 (by decide)).trans ?_); refine (congrFun (congrFun eF2 _) _).trans ((pUp_K c2 c1 (by decide)).trans ?_); exact (congrFun (congrFun eF1 _) _).trans (pUp_K c2 c1 (by decide))) ?_
  refine s_iconst (q := 13) 6 rfl ?_
  obtain ⟨c3, h⟩ := h
  refine PW.pick [0] rfl ?_
  exact n_callV (N := mX5_read) (as := [(0, 0)]) (st := [(2, x0)]) (q := 16) (d' := 82) 7 rfl uX5_read kX11_182 rfl c3 h
theorem vX11_orders_16 {l : Launch} {G : pG} {bg : Nat × Nat} {n : Nat} {K : Int → Nat × Nat} {F E : Int → Int → Int} {Q : Option pV → pM → Prop} (x0 s0 s1 : Int) (h : (K s1).1 = 11 ∧ (∀ F1, F1 = pUp F s1 17 s0 → (K x0).1 = 11 ∧ (K (F1 x0 9)).1 = 8 ∧ (∀ F2, F2 = pUp F1 (F1 x0 9) 1 0 → ((F1 x0 17 = (-1) → (K (F1 x0 0)).1 = 1 ∧ (K (F1 x0 5)).1 = 0 ∧ (K (F (F1 x0 0) 0)).1 = 0 ∧ (0 : Int) ≤ F (F (F1 x0 0) 0) 0 ∧ (K (F (F (F1 x0 0) 0) 0)).1 = 20 ∧ (0 : Int) ≤ F (F1 x0 5) 0 ∧ (K (F (F1 x0 5) 0)).1 = 20 ∧ ((0 : Int) ≤ 0 ∧ (0 : Int) ≤ 0 ∧ (0 : Int) ≤ 117 ∧ 0 + 117 ≤ ((K (F (F (F1 x0 0) 0) 0)).2 : Int) ∧ 0 + 117 ≤ ((K (F (F1 x0 5) 0)).2 : Int)) ∧ (∀ E3, E3 = pRow E (F (F1 x0 5) 0) (pCpy E (F (F (F1 x0 0) 0) 0) 0 (F (F1 x0 5) 0) 0 117) → (K (F1 x0 4)).1 = 3 ∧ PC l G 0 mX3_copy (0, 0) [(2, F1 x0 4), (2, F1 x0 3)] (n, K, F2, E3) (fun r μ => PW l G 83 mX11_orders bg 67 [(0, (2, x0))] (r.toList ++ []) μ Q))) ∧ (¬ (F1 x0 17 = (-1)) → (∀ F4, F4 = pUp F2 x0 16 (-6) → (K (F1 x0 13)).1 = 20 ∧ ((0 : Int) ≤ 4 ∧ 4 < ((K (F1 x0 13)).2 : Int)) ∧ (0 : Int) ≤ F1 x0 13 ∧ (∀ E5, E5 = pUp E (F1 x0 13) 4 (w32 ((E (F1 x0 13) 4) + 1)) → Q (some (0, (-6))) (n, K, F4, E5)))))))) : PW l G 83 mX11_orders bg 16 [(0, (2, x0))] [(0, s0), (2, s1)] (n, K, F, E) Q := by
  obtain ⟨c1, h⟩ := h
  refine n_putf (q := 19) (jj := 17) 8 11 17 rfl kX11_101 c1 (Or.inl rfl) ?_
  refine PW.nameF (fun F1 eF1 => ?_)
  replace h := h F1 eF1
  refine s_aload_n (q := 20) 9 0 rfl rfl ?_
  obtain ⟨c2, h⟩ := h
  refine n_getf (q := 23) (jj := 9) 10 11 9 rfl kX11_65 c2 ?_
  refine s_iconst (q := 24) 11 rfl ?_
  obtain ⟨c3, h⟩ := h
  refine n_putf (q := 27) (jj := 1) 12 8 1 rfl kX11_160 c3 (Or.inl rfl) ?_
  refine PW.nameF (fun F2 eF2 => ?_)
  replace h := h F2 eF2
  refine s_aload_n (q := 28) 13 0 rfl rfl ?_
  refine n_getf (q := 31) (jj := 17) 14 11 17 rfl kX11_101 c2 ?_
  refine PW.top (b := F1 x0 17) (by exact (congrFun (congrFun eF2 _) _).trans (pUp_K c3 c2 (by decide))) ?_
  refine s_iconst (q := 32) 15 rfl ?_
  refine s_icmp_eq (q := 35) (tgt := 42) 16 rfl rfl (fun hb => ?_) (fun hb => ?_)
  · skip
    have b4 := hb
    replace h := h.1 hb
    refine s_aload_n (q := 43) 21 0 rfl rfl ?_
    refine n_getf (q := 46) (jj := 5) 22 11 5 rfl kX11_37 c2 ?_
    refine PW.top (b := F1 x0 5) (by exact (congrFun (congrFun eF2 _) _).trans (pUp_K c3 c2 (by decide))) ?_
    refine s_aload_n (q := 47) 23 0 rfl rfl ?_
    refine n_getf (q := 50) (jj := 0) 24 11 0 rfl kX11_10 c2 ?_
    refine PW.top (b := F1 x0 0) (by exact (congrFun (congrFun eF2 _) _).trans (pUp_K c3 c2 (by decide))) ?_
    obtain ⟨c5, h⟩ := h
    refine n_getf (q := 53) (jj := 0) 25 1 0 rfl kX11_125 c5 ?_
    refine PW.top (b := F (F1 x0 0) 0) (by refine (congrFun (congrFun eF2 _) _).trans ((pUp_K c3 c5 (by decide)).trans ?_); exact (congrFun (congrFun eF1 _) _).trans (pUp_K c1 c5 (by decide))) ?_
    obtain ⟨c6, h⟩ := h
    refine n_callV (N := mX0_copy) (as := [(2, F (F1 x0 0) 0)]) (st := []) (q := 56) (d' := 0) 26 rfl uX0_copy kX11_202 rfl c6 ?_
    show PW l G 0 mX0_copy (0, 0) 0 [(0, (2, F1 x0 5)), (1, (2, F (F1 x0 0) 0))] [] (n, K, F2, E) _
    refine s_aload_n (q := 1) 0 1 rfl rfl ?_
    obtain ⟨c7, h⟩ := h
    refine n_getf (q := 4) (jj := 0) 1 0 0 rfl kX0_11 c7 ?_
    refine PW.top (b := F (F (F1 x0 0) 0) 0) (by refine (congrFun (congrFun eF2 _) _).trans ((pUp_K c3 c7 (by decide)).trans ?_); exact (congrFun (congrFun eF1 _) _).trans (pUp_K c1 c7 (by decide))) ?_
    refine s_iconst (q := 5) 2 rfl ?_
    refine s_aload_n (q := 6) 3 0 rfl rfl ?_
    refine n_getf (q := 9) (jj := 0) 4 0 0 rfl kX0_11 c6 ?_
    refine PW.top (b := F (F1 x0 5) 0) (by refine (congrFun (congrFun eF2 _) _).trans ((pUp_K c3 c6 (by decide)).trans ?_); exact (congrFun (congrFun eF1 _) _).trans (pUp_K c1 c6 (by decide))) ?_
    refine s_iconst (q := 10) 5 rfl ?_
    refine s_bipush (q := 12) 6 rfl ?_
    obtain ⟨c8, h⟩ := h
    obtain ⟨c9, h⟩ := h
    obtain ⟨c10, h⟩ := h
    obtain ⟨c11, h⟩ := h
    obtain ⟨c12, h⟩ := h
    refine n_copy (q := 15) 7 rfl kX0_15 c8 c9 c10 c11 c12 ?_
    refine PW.nameE (fun E3 eE3 => ?_)
    replace h := h E3 eE3
    refine s_vret 8 rfl rfl ?_
    show PW l G 83 mX11_orders bg 56 [(0, (2, x0))] [] (n, K, F2, E3) Q
    refine s_aload_n (q := 57) 27 0 rfl rfl ?_
    refine n_getf (q := 60) (jj := 4) 28 11 4 rfl kX11_31 c2 ?_
    refine PW.top (b := F1 x0 4) (by exact (congrFun (congrFun eF2 _) _).trans (pUp_K c3 c2 (by decide))) ?_
    refine s_aload_n (q := 61) 29 0 rfl rfl ?_
    refine n_getf (q := 64) (jj := 3) 30 11 3 rfl kX11_27 c2 ?_
    refine PW.top (b := F1 x0 3) (by exact (congrFun (congrFun eF2 _) _).trans (pUp_K c3 c2 (by decide))) ?_
    obtain ⟨c13, h⟩ := h
    refine PW.pick [0] rfl ?_
    exact n_callV (N := mX3_copy) (as := [(2, F1 x0 3)]) (st := []) (q := 67) (d' := 0) 31 rfl uX3_copy kX11_206 rfl c13 h
  · skip
    have b4 := hb
    replace h := h.2 hb
    refine s_aload_n (q := 36) 17 0 rfl rfl ?_
    refine s_bipush (q := 38) 18 rfl ?_
    refine n_callV (N := mX11_refuse) (as := [(0, (-6))]) (st := []) (q := 41) (d' := 0) 19 rfl uX11_refuse kX11_114 rfl c2 ?_
    show PW l G 0 mX11_refuse (0, 0) 0 [(0, (2, x0)), (1, (0, (-6)))] [] (n, K, F2, E) _
    refine s_aload_n (q := 1) 0 0 rfl rfl ?_
    refine s_iload_n (q := 2) 1 1 rfl rfl ?_
    refine n_putf (q := 5) (jj := 16) 2 11 16 rfl kX11_97 c2 (Or.inl rfl) ?_
    refine PW.nameF (fun F4 eF4 => ?_)
    replace h := h F4 eF4
    refine s_iload_n (q := 6) 3 1 rfl rfl ?_
    refine s_bipush (q := 8) 4 rfl ?_
    refine s_icmp_lt (q := 11) (tgt := 18) 5 rfl rfl (fun _ => ?_) (fun hb => absurd (by decide) hb)
    refine s_iload_n (q := 19) 11 1 rfl rfl ?_
    refine n_ineg (q := 20) 12 rfl (by decide) ?_
    refine PW.top (b := 6) (by decide) ?_
    refine s_iconst (q := 21) 13 rfl ?_
    refine n_isub (q := 22) 14 rfl (by decide) ?_
    refine PW.top (b := 4) (by decide) ?_
    refine s_istore_n (q := 23) (lv' := [(2, (0, 4)), (0, (2, x0)), (1, (0, (-6)))]) 15 rfl rfl ?_
    refine s_iload_n (q := 24) 16 0 rfl rfl ?_
    refine s_if_lt (q := 27) (tgt := 42) 17 rfl rfl (fun hb => absurd hb (by decide)) (fun _ => ?_)
    refine s_iload_n (q := 28) 18 0 rfl rfl ?_
    refine s_iconst (q := 29) 19 rfl ?_
    refine s_icmp_ge (q := 32) (tgt := 42) 20 rfl rfl (fun hb => absurd hb (by decide)) (fun _ => ?_)
    refine s_aload_n (q := 33) 21 1 rfl rfl ?_
    refine n_getf (q := 36) (jj := 13) 22 11 13 rfl kX11_87 c2 ?_
    refine PW.top (b := F1 x0 13) (by refine (congrFun (congrFun eF4 _) _).trans ((pUp_k (by decide)).trans ?_); exact (congrFun (congrFun eF2 _) _).trans (pUp_K c3 c2 (by decide))) ?_
    refine s_iload_n (q := 37) 23 0 rfl rfl ?_
    refine s_dup2 (q := 38) 24 rfl ?_
    obtain ⟨c14, h⟩ := h
    obtain ⟨c15, h⟩ := h
    refine n_iald (q := 39) 25 rfl c14 c15 ?_
    refine s_iconst (q := 40) 26 rfl ?_
    refine s_iadd (q := 41) 27 rfl ?_
    obtain ⟨c16, h⟩ := h
    refine n_iast (q := 42) 28 rfl c16 c14 c15 ?_
    refine PW.nameE (fun E5 eE5 => ?_)
    replace h := h E5 eE5
    refine s_iload_n (q := 43) 29 2 rfl rfl ?_
    refine s_iret 30 rfl rfl ?_
    show PW l G 83 mX11_orders bg 41 [(0, (2, x0))] [(0, (-6))] (n, K, F4, E5) Q
    exact s_iret 20 rfl rfl h
theorem vX11_orders_67 {l : Launch} {G : pG} {bg : Nat × Nat} {n : Nat} {K : Int → Nat × Nat} {F E : Int → Int → Int} {Q : Option pV → pM → Prop} (x0 : Int) (h : (K x0).1 = 11 ∧ (K (F x0 8)).1 = 5 ∧ PW l G 83 mX11_orders bg 77 [(0, (2, x0)), (1, (2, F (F x0 8) 1)), (2, (0, 0))] [] (n, K, F, E) Q) : PW l G 83 mX11_orders bg 67 [(0, (2, x0))] [] (n, K, F, E) Q := by
  refine s_aload_n (q := 68) 32 0 rfl rfl ?_
  obtain ⟨c1, h⟩ := h
  refine n_getf (q := 71) (jj := 8) 33 11 8 rfl kX11_51 c1 ?_
  obtain ⟨c2, h⟩ := h
  refine n_getf (q := 74) (jj := 1) 34 5 1 rfl kX11_192 c2 ?_
  refine s_astore_n (q := 75) (lv' := [(1, (2, F (F x0 8) 1)), (0, (2, x0))]) 35 rfl rfl ?_
  refine s_iconst (q := 76) 36 rfl ?_
  refine s_istore_n (q := 77) (lv' := [(2, (0, 0)), (1, (2, F (F x0 8) 1)), (0, (2, x0))]) 37 rfl rfl ?_
  refine PW.pick [2, 1, 0] rfl ?_
  exact h
theorem vX11_orders_77 {l : Launch} {G : pG} {bg : Nat × Nat} {n : Nat} {K : Int → Nat × Nat} {F E : Int → Int → Int} {Q : Option pV → pM → Prop} (x0 x1 x2 : Int) (h : (K x1).1 = 9 ∧ ((F x1 2 ≤ x2 → (K x0).1 = 11 ∧ (K (F x0 12)).1 = 7 ∧ ((¬ (F (F x0 12) 5) = (-1) → (K (F x0 0)).1 = 1 ∧ (K (F (F x0 0) 0)).1 = 0 ∧ (K (F x0 5)).1 = 0 ∧ (0 : Int) ≤ F (F x0 5) 0 ∧ (K (F (F x0 5) 0)).1 = 20 ∧ (0 : Int) ≤ F (F (F x0 0) 0) 0 ∧ (K (F (F (F x0 0) 0) 0)).1 = 20 ∧ ((0 : Int) ≤ 0 ∧ (0 : Int) ≤ 0 ∧ (0 : Int) ≤ 117 ∧ 0 + 117 ≤ ((K (F (F x0 5) 0)).2 : Int) ∧ 0 + 117 ≤ ((K (F (F (F x0 0) 0) 0)).2 : Int)) ∧ (∀ E1, E1 = pRow E (F (F (F x0 0) 0) 0) (pCpy E (F (F x0 5) 0) 0 (F (F (F x0 0) 0) 0) 0 117) → (K (F x0 3)).1 = 3 ∧ PC l G 0 mX3_copy (0, 0) [(2, F x0 3), (2, F x0 4)] (n, K, F, E1) (fun r μ => PW l G 83 mX11_orders bg 156 [(0, (2, x0))] (r.toList ++ []) μ Q))) ∧ ((F (F x0 12) 5) = (-1) → (∀ F2, F2 = pUp F x0 16 0 → Q (some (0, F (F x0 12) 3)) (n, K, F2, E))))) ∧ (¬ (F x1 2 ≤ x2) → (K x0).1 = 11 ∧ (K (F x0 12)).1 = 7 ∧ ((¬ (F (F x0 12) 5) = (-1) → ((¬ (F (F x0 12) 5) = (-1) → (K (F x0 0)).1 = 1 ∧ (K (F (F x0 0) 0)).1 = 0 ∧ (K (F x0 5)).1 = 0 ∧ (0 : Int) ≤ F (F x0 5) 0 ∧ (K (F (F x0 5) 0)).1 = 20 ∧ (0 : Int) ≤ F (F (F x0 0) 0) 0 ∧ (K (F (F (F x0 0) 0) 0)).1 = 20 ∧ ((0 : Int) ≤ 0 ∧ (0 : Int) ≤ 0 ∧ (0 : Int) ≤ 117 ∧ 0 + 117 ≤ ((K (F (F x0 5) 0)).2 : Int) ∧ 0 + 117 ≤ ((K (F (F (F x0 0) 0) 0)).2 : Int)) ∧ (∀ E3, E3 = pRow E (F (F (F x0 0) 0) 0) (pCpy E (F (F x0 5) 0) 0 (F (F (F x0 0) 0) 0) 0 117) → (K (F x0 3)).1 = 3 ∧ PC l G 0 mX3_copy (0, 0) [(2, F x0 3), (2, F x0 4)] (n, K, F, E3) (fun r μ => PW l G 83 mX11_orders bg 156 [(0, (2, x0))] (r.toList ++ []) μ Q))) ∧ ((F (F x0 12) 5) = (-1) → (∀ F4, F4 = pUp F x0 16 0 → Q (some (0, F (F x0 12) 3)) (n, K, F4, E))))) ∧ ((F (F x0 12) 5) = (-1) → PC l G 32 mX11_runClause (0, 0) [(2, x0), (2, x1), (0, x2)] (n, K, F, E) (fun r μ => PW l G 83 mX11_orders bg 102 [(0, (2, x0)), (1, (2, x1)), (2, (0, x2))] (r.toList ++ []) μ Q)))))) : PW l G 83 mX11_orders bg 77 [(0, (2, x0)), (1, (2, x1)), (2, (0, x2))] [] (n, K, F, E) Q := by
  refine s_iload_n (q := 78) 38 2 rfl rfl ?_
  refine s_aload_n (q := 79) 39 1 rfl rfl ?_
  obtain ⟨c1, h⟩ := h
  refine n_getf (q := 82) (jj := 2) 40 9 2 rfl kX11_209 c1 ?_
  refine s_icmp_ge (q := 85) (tgt := 108) 41 rfl rfl (fun hb => ?_) (fun hb => ?_)
  · skip
    have b2 := hb
    replace h := h.1 hb
    refine s_aload_n (q := 109) 53 0 rfl rfl ?_
    obtain ⟨c3, h⟩ := h
    refine n_getf (q := 112) (jj := 12) 54 11 12 rfl kX11_83 c3 ?_
    obtain ⟨c4, h⟩ := h
    refine n_getf (q := 115) (jj := 5) 55 7 5 rfl kX11_212 c4 ?_
    refine s_iconst (q := 116) 56 rfl ?_
    refine s_icmp_ne (q := 119) (tgt := 131) 57 rfl rfl (fun hb => ?_) (fun hb => ?_)
    · skip
      have b5 := hb
      replace h := h.1 hb
      refine s_aload_n (q := 132) 64 0 rfl rfl ?_
      refine n_getf (q := 135) (jj := 0) 65 11 0 rfl kX11_10 c3 ?_
      obtain ⟨c6, h⟩ := h
      refine n_getf (q := 138) (jj := 0) 66 1 0 rfl kX11_125 c6 ?_
      refine s_aload_n (q := 139) 67 0 rfl rfl ?_
      refine n_getf (q := 142) (jj := 5) 68 11 5 rfl kX11_37 c3 ?_
      obtain ⟨c7, h⟩ := h
      refine n_callV (N := mX0_copy) (as := [(2, F x0 5)]) (st := []) (q := 145) (d' := 0) 69 rfl uX0_copy kX11_202 rfl c7 ?_
      show PW l G 0 mX0_copy (0, 0) 0 [(0, (2, F (F x0 0) 0)), (1, (2, F x0 5))] [] (n, K, F, E) _
      refine s_aload_n (q := 1) 0 1 rfl rfl ?_
      obtain ⟨c8, h⟩ := h
      refine n_getf (q := 4) (jj := 0) 1 0 0 rfl kX0_11 c8 ?_
      refine s_iconst (q := 5) 2 rfl ?_
      refine s_aload_n (q := 6) 3 0 rfl rfl ?_
      refine n_getf (q := 9) (jj := 0) 4 0 0 rfl kX0_11 c7 ?_
      refine s_iconst (q := 10) 5 rfl ?_
      refine s_bipush (q := 12) 6 rfl ?_
      obtain ⟨c9, h⟩ := h
      obtain ⟨c10, h⟩ := h
      obtain ⟨c11, h⟩ := h
      obtain ⟨c12, h⟩ := h
      obtain ⟨c13, h⟩ := h
      refine n_copy (q := 15) 7 rfl kX0_15 c9 c10 c11 c12 c13 ?_
      refine PW.nameE (fun E1 eE1 => ?_)
      replace h := h E1 eE1
      refine s_vret 8 rfl rfl ?_
      show PW l G 83 mX11_orders bg 145 [(0, (2, x0)), (1, (2, x1)), (2, (0, x2))] [] (n, K, F, E1) Q
      refine s_aload_n (q := 146) 70 0 rfl rfl ?_
      refine n_getf (q := 149) (jj := 3) 71 11 3 rfl kX11_27 c3 ?_
      refine s_aload_n (q := 150) 72 0 rfl rfl ?_
      refine n_getf (q := 153) (jj := 4) 73 11 4 rfl kX11_31 c3 ?_
      obtain ⟨c14, h⟩ := h
      refine PW.pick [0] rfl ?_
      exact n_callV (N := mX3_copy) (as := [(2, F x0 4)]) (st := []) (q := 156) (d' := 0) 74 rfl uX3_copy kX11_206 rfl c14 h
    · have hb := Classical.not_not.mp hb
      have b5 := hb
      replace h := h.2 hb
      refine s_aload_n (q := 120) 58 0 rfl rfl ?_
      refine s_aload_n (q := 121) 59 0 rfl rfl ?_
      refine n_getf (q := 124) (jj := 12) 60 11 12 rfl kX11_83 c3 ?_
      refine n_getf (q := 127) (jj := 3) 61 7 3 rfl kX11_219 c4 ?_
      refine n_callV (N := mX11_accept) (as := [(0, F (F x0 12) 3)]) (st := []) (q := 130) (d' := 0) 62 rfl uX11_accept kX11_157 rfl c3 ?_
      show PW l G 0 mX11_accept (0, 0) 0 [(0, (2, x0)), (1, (0, F (F x0 12) 3))] [] (n, K, F, E) _
      refine s_aload_n (q := 1) 0 0 rfl rfl ?_
      refine s_iconst (q := 2) 1 rfl ?_
      refine n_putf (q := 5) (jj := 16) 2 11 16 rfl kX11_97 c3 (Or.inl rfl) ?_
      refine PW.nameF (fun F2 eF2 => ?_)
      replace h := h F2 eF2
      refine s_iload_n (q := 6) 3 1 rfl rfl ?_
      refine s_iret 4 rfl rfl ?_
      show PW l G 83 mX11_orders bg 130 [(0, (2, x0)), (1, (2, x1)), (2, (0, x2))] [(0, F (F x0 12) 3)] (n, K, F2, E) Q
      exact s_iret 63 rfl rfl h
  · skip
    have b2 := hb
    replace h := h.2 hb
    refine s_aload_n (q := 86) 42 0 rfl rfl ?_
    obtain ⟨c15, h⟩ := h
    refine n_getf (q := 89) (jj := 12) 43 11 12 rfl kX11_83 c15 ?_
    obtain ⟨c16, h⟩ := h
    refine n_getf (q := 92) (jj := 5) 44 7 5 rfl kX11_212 c16 ?_
    refine s_iconst (q := 93) 45 rfl ?_
    refine s_icmp_ne (q := 96) (tgt := 108) 46 rfl rfl (fun hb => ?_) (fun hb => ?_)
    · skip
      have b17 := hb
      replace h := h.1 hb
      refine s_aload_n (q := 109) 53 0 rfl rfl ?_
      refine n_getf (q := 112) (jj := 12) 54 11 12 rfl kX11_83 c15 ?_
      refine n_getf (q := 115) (jj := 5) 55 7 5 rfl kX11_212 c16 ?_
      refine s_iconst (q := 116) 56 rfl ?_
      refine s_icmp_ne (q := 119) (tgt := 131) 57 rfl rfl (fun hb => ?_) (fun hb => ?_)
      · skip
        have b18 := hb
        replace h := h.1 hb
        refine s_aload_n (q := 132) 64 0 rfl rfl ?_
        refine n_getf (q := 135) (jj := 0) 65 11 0 rfl kX11_10 c15 ?_
        obtain ⟨c19, h⟩ := h
        refine n_getf (q := 138) (jj := 0) 66 1 0 rfl kX11_125 c19 ?_
        refine s_aload_n (q := 139) 67 0 rfl rfl ?_
        refine n_getf (q := 142) (jj := 5) 68 11 5 rfl kX11_37 c15 ?_
        obtain ⟨c20, h⟩ := h
        refine n_callV (N := mX0_copy) (as := [(2, F x0 5)]) (st := []) (q := 145) (d' := 0) 69 rfl uX0_copy kX11_202 rfl c20 ?_
        show PW l G 0 mX0_copy (0, 0) 0 [(0, (2, F (F x0 0) 0)), (1, (2, F x0 5))] [] (n, K, F, E) _
        refine s_aload_n (q := 1) 0 1 rfl rfl ?_
        obtain ⟨c21, h⟩ := h
        refine n_getf (q := 4) (jj := 0) 1 0 0 rfl kX0_11 c21 ?_
        refine s_iconst (q := 5) 2 rfl ?_
        refine s_aload_n (q := 6) 3 0 rfl rfl ?_
        refine n_getf (q := 9) (jj := 0) 4 0 0 rfl kX0_11 c20 ?_
        refine s_iconst (q := 10) 5 rfl ?_
        refine s_bipush (q := 12) 6 rfl ?_
        obtain ⟨c22, h⟩ := h
        obtain ⟨c23, h⟩ := h
        obtain ⟨c24, h⟩ := h
        obtain ⟨c25, h⟩ := h
        obtain ⟨c26, h⟩ := h
        refine n_copy (q := 15) 7 rfl kX0_15 c22 c23 c24 c25 c26 ?_
        refine PW.nameE (fun E3 eE3 => ?_)
        replace h := h E3 eE3
        refine s_vret 8 rfl rfl ?_
        show PW l G 83 mX11_orders bg 145 [(0, (2, x0)), (1, (2, x1)), (2, (0, x2))] [] (n, K, F, E3) Q
        refine s_aload_n (q := 146) 70 0 rfl rfl ?_
        refine n_getf (q := 149) (jj := 3) 71 11 3 rfl kX11_27 c15 ?_
        refine s_aload_n (q := 150) 72 0 rfl rfl ?_
        refine n_getf (q := 153) (jj := 4) 73 11 4 rfl kX11_31 c15 ?_
        obtain ⟨c27, h⟩ := h
        refine PW.pick [0] rfl ?_
        exact n_callV (N := mX3_copy) (as := [(2, F x0 4)]) (st := []) (q := 156) (d' := 0) 74 rfl uX3_copy kX11_206 rfl c27 h
      · have hb := Classical.not_not.mp hb
        have b18 := hb
        replace h := h.2 hb
        refine s_aload_n (q := 120) 58 0 rfl rfl ?_
        refine s_aload_n (q := 121) 59 0 rfl rfl ?_
        refine n_getf (q := 124) (jj := 12) 60 11 12 rfl kX11_83 c15 ?_
        refine n_getf (q := 127) (jj := 3) 61 7 3 rfl kX11_219 c16 ?_
        refine n_callV (N := mX11_accept) (as := [(0, F (F x0 12) 3)]) (st := []) (q := 130) (d' := 0) 62 rfl uX11_accept kX11_157 rfl c15 ?_
        show PW l G 0 mX11_accept (0, 0) 0 [(0, (2, x0)), (1, (0, F (F x0 12) 3))] [] (n, K, F, E) _
        refine s_aload_n (q := 1) 0 0 rfl rfl ?_
        refine s_iconst (q := 2) 1 rfl ?_
        refine n_putf (q := 5) (jj := 16) 2 11 16 rfl kX11_97 c15 (Or.inl rfl) ?_
        refine PW.nameF (fun F4 eF4 => ?_)
        replace h := h F4 eF4
        refine s_iload_n (q := 6) 3 1 rfl rfl ?_
        refine s_iret 4 rfl rfl ?_
        show PW l G 83 mX11_orders bg 130 [(0, (2, x0)), (1, (2, x1)), (2, (0, x2))] [(0, F (F x0 12) 3)] (n, K, F4, E) Q
        exact s_iret 63 rfl rfl h
    · have hb := Classical.not_not.mp hb
      have b17 := hb
      replace h := h.2 hb
      refine s_aload_n (q := 97) 47 0 rfl rfl ?_
      refine s_aload_n (q := 98) 48 1 rfl rfl ?_
      refine s_iload_n (q := 99) 49 2 rfl rfl ?_
      refine PW.pick [0, 1, 2] rfl ?_
      exact n_callV (N := mX11_runClause) (as := [(2, x1), (0, x2)]) (st := []) (q := 102) (d' := 32) 50 rfl uX11_runClause kX11_215 rfl c15 h
theorem vX11_orders_102 {l : Launch} {G : pG} {bg : Nat × Nat} {n : Nat} {K : Int → Nat × Nat} {F E : Int → Int → Int} {Q : Option pV → pM → Prop} (x0 x1 x2 : Int) (h : (-2147483648 ≤ x2 + 1 ∧ x2 + 1 < 2147483648) ∧ PW l G 83 mX11_orders bg 77 [(0, (2, x0)), (1, (2, x1)), (2, (0, x2 + 1))] [] (n, K, F, E) Q) : PW l G 83 mX11_orders bg 102 [(0, (2, x0)), (1, (2, x1)), (2, (0, x2))] [] (n, K, F, E) Q := by
  obtain ⟨c1, h⟩ := h
  refine n_iinc (q := 105) (lv' := [(2, (0, x2 + 1)), (0, (2, x0)), (1, (2, x1))]) 51 2 rfl rfl c1 rfl ?_
  refine s_goto (tgt := 77) 52 rfl rfl ?_
  refine PW.pick [1, 2, 0] rfl ?_
  exact h
theorem vX11_orders_156 {l : Launch} {G : pG} {bg : Nat × Nat} {n : Nat} {K : Int → Nat × Nat} {F E : Int → Int → Int} {Q : Option pV → pM → Prop} (x0 : Int) (h : (K x0).1 = 11 ∧ (∀ F1, F1 = pUp F x0 16 (-3) → (K (F x0 13)).1 = 20 ∧ ((0 : Int) ≤ 2 ∧ 2 < ((K (F x0 13)).2 : Int)) ∧ (0 : Int) ≤ F x0 13 ∧ (∀ E2, E2 = pUp E (F x0 13) 2 (w32 ((E (F x0 13) 2) + 1)) → Q (some (0, (-3))) (n, K, F1, E2)))) : PW l G 83 mX11_orders bg 156 [(0, (2, x0))] [] (n, K, F, E) Q := by
  refine s_aload_n (q := 157) 75 0 rfl rfl ?_
  refine s_bipush (q := 159) 76 rfl ?_
  obtain ⟨c1, h⟩ := h
  refine n_callV (N := mX11_refuse) (as := [(0, (-3))]) (st := []) (q := 162) (d' := 0) 77 rfl uX11_refuse kX11_114 rfl c1 ?_
  show PW l G 0 mX11_refuse (0, 0) 0 [(0, (2, x0)), (1, (0, (-3)))] [] (n, K, F, E) _
  refine s_aload_n (q := 1) 0 0 rfl rfl ?_
  refine s_iload_n (q := 2) 1 1 rfl rfl ?_
  refine n_putf (q := 5) (jj := 16) 2 11 16 rfl kX11_97 c1 (Or.inl rfl) ?_
  refine PW.nameF (fun F1 eF1 => ?_)
  replace h := h F1 eF1
  refine s_iload_n (q := 6) 3 1 rfl rfl ?_
  refine s_bipush (q := 8) 4 rfl ?_
  refine s_icmp_lt (q := 11) (tgt := 18) 5 rfl rfl (fun hb => absurd hb (by decide)) (fun _ => ?_)
  refine s_iload_n (q := 12) 6 1 rfl rfl ?_
  refine n_ineg (q := 13) 7 rfl (by decide) ?_
  refine PW.top (b := 3) (by decide) ?_
  refine s_iconst (q := 14) 8 rfl ?_
  refine n_isub (q := 15) 9 rfl (by decide) ?_
  refine PW.top (b := 2) (by decide) ?_
  refine s_goto (tgt := 22) 10 rfl rfl ?_
  refine s_istore_n (q := 23) (lv' := [(2, (0, 2)), (0, (2, x0)), (1, (0, (-3)))]) 15 rfl rfl ?_
  refine s_iload_n (q := 24) 16 0 rfl rfl ?_
  refine s_if_lt (q := 27) (tgt := 42) 17 rfl rfl (fun hb => absurd hb (by decide)) (fun _ => ?_)
  refine s_iload_n (q := 28) 18 0 rfl rfl ?_
  refine s_iconst (q := 29) 19 rfl ?_
  refine s_icmp_ge (q := 32) (tgt := 42) 20 rfl rfl (fun hb => absurd hb (by decide)) (fun _ => ?_)
  refine s_aload_n (q := 33) 21 1 rfl rfl ?_
  refine n_getf (q := 36) (jj := 13) 22 11 13 rfl kX11_87 c1 ?_
  refine PW.top (b := F x0 13) (by exact (congrFun (congrFun eF1 _) _).trans (pUp_k (by decide))) ?_
  refine s_iload_n (q := 37) 23 0 rfl rfl ?_
  refine s_dup2 (q := 38) 24 rfl ?_
  obtain ⟨c2, h⟩ := h
  obtain ⟨c3, h⟩ := h
  refine n_iald (q := 39) 25 rfl c2 c3 ?_
  refine s_iconst (q := 40) 26 rfl ?_
  refine s_iadd (q := 41) 27 rfl ?_
  obtain ⟨c4, h⟩ := h
  refine n_iast (q := 42) 28 rfl c4 c2 c3 ?_
  refine PW.nameE (fun E2 eE2 => ?_)
  replace h := h E2 eE2
  refine s_iload_n (q := 43) 29 2 rfl rfl ?_
  refine s_iret 30 rfl rfl ?_
  show PW l G 83 mX11_orders bg 162 [(0, (2, x0))] [(0, (-3))] (n, K, F1, E2) Q
  exact s_iret 78 rfl rfl h
theorem vX11_fault_0 {l : Launch} {G : pG} {bg : Nat × Nat} {n : Nat} {K : Int → Nat × Nat} {F E : Int → Int → Int} {Q : Option pV → pM → Prop} (x0 : Int) (h : (K x0).1 = 11 ∧ Q (some (0, F x0 17)) (n, K, F, E)) : PW l G 0 mX11_fault bg 0 [(0, (2, x0))] [] (n, K, F, E) Q := by
  refine s_aload_n (q := 1) 0 0 rfl rfl ?_
  obtain ⟨c1, h⟩ := h
  refine n_getf (q := 4) (jj := 17) 1 11 17 rfl kX11_101 c1 ?_
  exact s_iret 2 rfl rfl h
theorem vX11_stopped_0 {l : Launch} {G : pG} {bg : Nat × Nat} {n : Nat} {K : Int → Nat × Nat} {F E : Int → Int → Int} {Q : Option pV → pM → Prop} (x0 : Int) (h : (K x0).1 = 11 ∧ (K (F x0 12)).1 = 7 ∧ Q (some (0, F (F x0 12) 5)) (n, K, F, E)) : PW l G 0 mX11_stopped bg 0 [(0, (2, x0))] [] (n, K, F, E) Q := by
  refine s_aload_n (q := 1) 0 0 rfl rfl ?_
  obtain ⟨c1, h⟩ := h
  refine n_getf (q := 4) (jj := 12) 1 11 12 rfl kX11_83 c1 ?_
  obtain ⟨c2, h⟩ := h
  refine n_getf (q := 7) (jj := 5) 2 7 5 rfl kX11_212 c2 ?_
  exact s_iret 3 rfl rfl h
theorem vX11_force_0 {l : Launch} {G : pG} {bg : Nat × Nat} {n : Nat} {K : Int → Nat × Nat} {F E : Int → Int → Int} {Q : Option pV → pM → Prop} (x0 x1 : Int) (h : ((x1 = (-1) → (K x0).1 = 11 ∧ (K (F x0 0)).1 = 1 ∧ (∀ F1, F1 = pUp F (F x0 0) 7 x1 → (∀ F2, F2 = pUp F1 x0 16 0 → Q (some (0, F (F x0 0) 7)) (n, K, F2, E)))) ∧ (¬ (x1 = (-1)) → (K x0).1 = 11 ∧ (K (F x0 0)).1 = 1 ∧ ((0 ≤ x1 ∧ x1 < F (F x0 0) 6 → (∀ F3, F3 = pUp F (F x0 0) 7 x1 → (∀ F4, F4 = pUp F3 x0 16 0 → Q (some (0, F (F x0 0) 7)) (n, K, F4, E)))) ∧ (¬ (0 ≤ x1 ∧ x1 < F (F x0 0) 6) → (∀ F5, F5 = pUp F x0 16 (-2) → (K (F x0 13)).1 = 20 ∧ ((0 : Int) ≤ 1 ∧ 1 < ((K (F x0 13)).2 : Int)) ∧ (0 : Int) ≤ F x0 13 ∧ (∀ E6, E6 = pUp E (F x0 13) 1 (w32 ((E (F x0 13) 1) + 1)) → Q (some (0, (-2))) (n, K, F5, E6)))))))) : PW l G 1 mX11_force bg 0 [(0, (2, x0)), (1, (0, x1))] [] (n, K, F, E) Q := by
  refine s_iload_n (q := 1) 0 1 rfl rfl ?_
  refine s_iconst (q := 2) 1 rfl ?_
  refine s_icmp_eq (q := 5) (tgt := 20) 2 rfl rfl (fun hb => ?_) (fun hb => ?_)
  · skip
    have b1 := hb
    replace h := h.1 hb
    refine s_aload_n (q := 21) 11 0 rfl rfl ?_
    obtain ⟨c2, h⟩ := h
    refine n_getf (q := 24) (jj := 0) 12 11 0 rfl kX11_10 c2 ?_
    obtain ⟨c3, h⟩ := h
    refine n_getf (q := 27) (jj := 7) 13 1 7 rfl kX11_225 c3 ?_
    refine s_istore_n (q := 28) (lv' := [(2, (0, F (F x0 0) 7)), (0, (2, x0)), (1, (0, x1))]) 14 rfl rfl ?_
    refine s_aload_n (q := 29) 15 1 rfl rfl ?_
    refine n_getf (q := 32) (jj := 0) 16 11 0 rfl kX11_10 c2 ?_
    refine s_iload_n (q := 33) 17 2 rfl rfl ?_
    refine n_putf (q := 36) (jj := 7) 18 1 7 rfl kX11_225 c3 (Or.inl rfl) ?_
    refine PW.nameF (fun F1 eF1 => ?_)
    replace h := h F1 eF1
    refine s_aload_n (q := 37) 19 1 rfl rfl ?_
    refine s_iload_n (q := 38) 20 0 rfl rfl ?_
    refine n_callV (N := mX11_accept) (as := [(0, F (F x0 0) 7)]) (st := []) (q := 41) (d' := 0) 21 rfl uX11_accept kX11_157 rfl c2 ?_
    show PW l G 0 mX11_accept (0, 0) 0 [(0, (2, x0)), (1, (0, F (F x0 0) 7))] [] (n, K, F1, E) _
    refine s_aload_n (q := 1) 0 0 rfl rfl ?_
    refine s_iconst (q := 2) 1 rfl ?_
    refine n_putf (q := 5) (jj := 16) 2 11 16 rfl kX11_97 c2 (Or.inl rfl) ?_
    refine PW.nameF (fun F2 eF2 => ?_)
    replace h := h F2 eF2
    refine s_iload_n (q := 6) 3 1 rfl rfl ?_
    refine s_iret 4 rfl rfl ?_
    show PW l G 1 mX11_force bg 41 [(2, (0, F (F x0 0) 7)), (0, (2, x0)), (1, (0, x1))] [(0, F (F x0 0) 7)] (n, K, F2, E) Q
    exact s_iret 22 rfl rfl h
  · skip
    have b1 := hb
    replace h := h.2 hb
    refine s_aload_n (q := 6) 3 0 rfl rfl ?_
    refine s_iload_n (q := 7) 4 1 rfl rfl ?_
    obtain ⟨c4, h⟩ := h
    obtain ⟨c5, h⟩ := h
    refine n_callV (N := mX11_hasLaw) (as := [(0, x1)]) (st := []) (q := 10) (d' := 0) 5 rfl uX11_hasLaw kX11_222 rfl c4 (pX11_hasLaw c4 c5 ?_)
    show PW l G 1 mX11_force bg 10 [(0, (2, x0)), (1, (0, x1))] [(0, bI (0 ≤ x1 ∧ x1 < F (F x0 0) 6))] (n, K, F, E) Q
    refine s_if_ne (q := 13) (tgt := 20) 6 rfl rfl (fun hb => ?_) (fun hb => ?_)
    · have hb := bI_t hb
      have b6 := hb
      replace h := h.1 hb
      refine s_aload_n (q := 21) 11 0 rfl rfl ?_
      refine n_getf (q := 24) (jj := 0) 12 11 0 rfl kX11_10 c4 ?_
      refine n_getf (q := 27) (jj := 7) 13 1 7 rfl kX11_225 c5 ?_
      refine s_istore_n (q := 28) (lv' := [(2, (0, F (F x0 0) 7)), (0, (2, x0)), (1, (0, x1))]) 14 rfl rfl ?_
      refine s_aload_n (q := 29) 15 1 rfl rfl ?_
      refine n_getf (q := 32) (jj := 0) 16 11 0 rfl kX11_10 c4 ?_
      refine s_iload_n (q := 33) 17 2 rfl rfl ?_
      refine n_putf (q := 36) (jj := 7) 18 1 7 rfl kX11_225 c5 (Or.inl rfl) ?_
      refine PW.nameF (fun F3 eF3 => ?_)
      replace h := h F3 eF3
      refine s_aload_n (q := 37) 19 1 rfl rfl ?_
      refine s_iload_n (q := 38) 20 0 rfl rfl ?_
      refine n_callV (N := mX11_accept) (as := [(0, F (F x0 0) 7)]) (st := []) (q := 41) (d' := 0) 21 rfl uX11_accept kX11_157 rfl c4 ?_
      show PW l G 0 mX11_accept (0, 0) 0 [(0, (2, x0)), (1, (0, F (F x0 0) 7))] [] (n, K, F3, E) _
      refine s_aload_n (q := 1) 0 0 rfl rfl ?_
      refine s_iconst (q := 2) 1 rfl ?_
      refine n_putf (q := 5) (jj := 16) 2 11 16 rfl kX11_97 c4 (Or.inl rfl) ?_
      refine PW.nameF (fun F4 eF4 => ?_)
      replace h := h F4 eF4
      refine s_iload_n (q := 6) 3 1 rfl rfl ?_
      refine s_iret 4 rfl rfl ?_
      show PW l G 1 mX11_force bg 41 [(2, (0, F (F x0 0) 7)), (0, (2, x0)), (1, (0, x1))] [(0, F (F x0 0) 7)] (n, K, F4, E) Q
      exact s_iret 22 rfl rfl h
    · have hb := bI_f2 hb
      have b6 := hb
      replace h := h.2 hb
      refine s_aload_n (q := 14) 7 0 rfl rfl ?_
      refine s_bipush (q := 16) 8 rfl ?_
      refine n_callV (N := mX11_refuse) (as := [(0, (-2))]) (st := []) (q := 19) (d' := 0) 9 rfl uX11_refuse kX11_114 rfl c4 ?_
      show PW l G 0 mX11_refuse (0, 0) 0 [(0, (2, x0)), (1, (0, (-2)))] [] (n, K, F, E) _
      refine s_aload_n (q := 1) 0 0 rfl rfl ?_
      refine s_iload_n (q := 2) 1 1 rfl rfl ?_
      refine n_putf (q := 5) (jj := 16) 2 11 16 rfl kX11_97 c4 (Or.inl rfl) ?_
      refine PW.nameF (fun F5 eF5 => ?_)
      replace h := h F5 eF5
      refine s_iload_n (q := 6) 3 1 rfl rfl ?_
      refine s_bipush (q := 8) 4 rfl ?_
      refine s_icmp_lt (q := 11) (tgt := 18) 5 rfl rfl (fun hb => absurd hb (by decide)) (fun _ => ?_)
      refine s_iload_n (q := 12) 6 1 rfl rfl ?_
      refine n_ineg (q := 13) 7 rfl (by decide) ?_
      refine PW.top (b := 2) (by decide) ?_
      refine s_iconst (q := 14) 8 rfl ?_
      refine n_isub (q := 15) 9 rfl (by decide) ?_
      refine PW.top (b := 1) (by decide) ?_
      refine s_goto (tgt := 22) 10 rfl rfl ?_
      refine s_istore_n (q := 23) (lv' := [(2, (0, 1)), (0, (2, x0)), (1, (0, (-2)))]) 15 rfl rfl ?_
      refine s_iload_n (q := 24) 16 0 rfl rfl ?_
      refine s_if_lt (q := 27) (tgt := 42) 17 rfl rfl (fun hb => absurd hb (by decide)) (fun _ => ?_)
      refine s_iload_n (q := 28) 18 0 rfl rfl ?_
      refine s_iconst (q := 29) 19 rfl ?_
      refine s_icmp_ge (q := 32) (tgt := 42) 20 rfl rfl (fun hb => absurd hb (by decide)) (fun _ => ?_)
      refine s_aload_n (q := 33) 21 1 rfl rfl ?_
      refine n_getf (q := 36) (jj := 13) 22 11 13 rfl kX11_87 c4 ?_
      refine PW.top (b := F x0 13) (by exact (congrFun (congrFun eF5 _) _).trans (pUp_k (by decide))) ?_
      refine s_iload_n (q := 37) 23 0 rfl rfl ?_
      refine s_dup2 (q := 38) 24 rfl ?_
      obtain ⟨c7, h⟩ := h
      obtain ⟨c8, h⟩ := h
      refine n_iald (q := 39) 25 rfl c7 c8 ?_
      refine s_iconst (q := 40) 26 rfl ?_
      refine s_iadd (q := 41) 27 rfl ?_
      obtain ⟨c9, h⟩ := h
      refine n_iast (q := 42) 28 rfl c9 c7 c8 ?_
      refine PW.nameE (fun E6 eE6 => ?_)
      replace h := h E6 eE6
      refine s_iload_n (q := 43) 29 2 rfl rfl ?_
      refine s_iret 30 rfl rfl ?_
      show PW l G 1 mX11_force bg 19 [(0, (2, x0)), (1, (0, x1))] [(0, (-2))] (n, K, F5, E6) Q
      exact s_iret 10 rfl rfl h
