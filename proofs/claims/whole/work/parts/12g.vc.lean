theorem vX11_come_0 {l : Launch} {G : pG} {bg : Nat × Nat} {n : Nat} {K : Int → Nat × Nat} {F E : Int → Int → Int} {Q : Option pV → pM → Prop} (x0 x1 x2 x3 : Int) (h : (K x0).1 = 11 ∧ (K (F x0 0)).1 = 1 ∧ PC l G 31 mX11_comeTo (0, 0) [(2, x0), (2, F (F x0 0) 0), (2, F x0 3), (0, x1), (0, x2), (0, x3)] (n, K, F, E) (fun r μ => PW l G 32 mX11_come bg 18 [(0, (2, x0))] (r.toList ++ []) μ Q)) : PW l G 32 mX11_come bg 0 [(0, (2, x0)), (1, (0, x1)), (2, (0, x2)), (3, (0, x3))] [] (n, K, F, E) Q := by
  refine s_aload_n (q := 1) 0 0 rfl rfl ?_
  refine s_aload_n (q := 2) 1 0 rfl rfl ?_
  obtain ⟨c1, h⟩ := h
  refine n_getf (q := 5) (jj := 0) 2 11 0 rfl kX11_10 c1 ?_
  obtain ⟨c2, h⟩ := h
  refine n_getf (q := 8) (jj := 0) 3 1 0 rfl kX11_125 c2 ?_
  refine s_aload_n (q := 9) 4 0 rfl rfl ?_
  refine n_getf (q := 12) (jj := 3) 5 11 3 rfl kX11_27 c1 ?_
  refine s_iload_n (q := 13) 6 1 rfl rfl ?_
  refine s_iload_n (q := 14) 7 2 rfl rfl ?_
  refine s_iload_n (q := 15) 8 3 rfl rfl ?_
  refine PW.pick [0] rfl ?_
  exact n_callV (N := mX11_comeTo) (as := [(2, F (F x0 0) 0), (2, F x0 3), (0, x1), (0, x2), (0, x3)]) (st := []) (q := 18) (d' := 31) 9 rfl uX11_comeTo kX11_172 rfl c1 h
theorem vX11_come_18 {l : Launch} {G : pG} {bg : Nat × Nat} {n : Nat} {K : Int → Nat × Nat} {F E : Int → Int → Int} {Q : Option pV → pM → Prop} (x0 s0 : Int) (h : ((s0 < 0 → ((0 ≤ s0 → (K x0).1 = 11 ∧ (K (F x0 11)).1 = 2 ∧ (K (F x0 10)).1 = 6 ∧ (∀ F1, F1 = pUp F (F x0 11) 3 (F (F x0 10) 13) → (∀ F2, F2 = pUp F1 (F x0 11) 4 (F (F x0 10) 14) → (K (F (F x0 11) 2)).1 = 20 ∧ (0 : Int) ≤ F (F x0 10) 11 ∧ (K (F (F x0 10) 11)).1 = 20 ∧ (0 : Int) ≤ F (F x0 11) 2 ∧ ((0 : Int) ≤ 0 ∧ (0 : Int) ≤ 0 ∧ (0 : Int) ≤ ((K (F (F x0 11) 2)).2 : Int) ∧ 0 + ((K (F (F x0 11) 2)).2 : Int) ≤ ((K (F (F x0 10) 11)).2 : Int) ∧ 0 + ((K (F (F x0 11) 2)).2 : Int) ≤ ((K (F (F x0 11) 2)).2 : Int)) ∧ (∀ E3, E3 = pRow E (F (F x0 11) 2) (pCpy E (F (F x0 10) 11) 0 (F (F x0 11) 2) 0 ((K (F (F x0 11) 2)).2 : Int)) → PC l G 1 mX11_settle (0, 0) [(2, x0), (0, s0)] (n, K, F2, E3) (fun r μ => PW l G 32 mX11_come bg 65 [] (r.toList ++ []) μ Q))))) ∧ (¬ (0 ≤ s0) → ((¬ s0 = (-5) → (K x0).1 = 11 ∧ PC l G 1 mX11_settle (0, 0) [(2, x0), (0, s0)] (n, K, F, E) (fun r μ => PW l G 32 mX11_come bg 65 [] (r.toList ++ []) μ Q)) ∧ (s0 = (-5) → (K x0).1 = 11 ∧ (K (F x0 11)).1 = 2 ∧ (K (F x0 10)).1 = 6 ∧ (∀ F4, F4 = pUp F (F x0 11) 3 (F (F x0 10) 13) → (∀ F5, F5 = pUp F4 (F x0 11) 4 (F (F x0 10) 14) → (K (F (F x0 11) 2)).1 = 20 ∧ (0 : Int) ≤ F (F x0 10) 11 ∧ (K (F (F x0 10) 11)).1 = 20 ∧ (0 : Int) ≤ F (F x0 11) 2 ∧ ((0 : Int) ≤ 0 ∧ (0 : Int) ≤ 0 ∧ (0 : Int) ≤ ((K (F (F x0 11) 2)).2 : Int) ∧ 0 + ((K (F (F x0 11) 2)).2 : Int) ≤ ((K (F (F x0 10) 11)).2 : Int) ∧ 0 + ((K (F (F x0 11) 2)).2 : Int) ≤ ((K (F (F x0 11) 2)).2 : Int)) ∧ (∀ E6, E6 = pRow E (F (F x0 11) 2) (pCpy E (F (F x0 10) 11) 0 (F (F x0 11) 2) 0 ((K (F (F x0 11) 2)).2 : Int)) → PC l G 1 mX11_settle (0, 0) [(2, x0), (0, s0)] (n, K, F5, E6) (fun r μ => PW l G 32 mX11_come bg 65 [] (r.toList ++ []) μ Q))))))))) ∧ (¬ (s0 < 0) → (K x0).1 = 11 ∧ (K (F x0 11)).1 = 2 ∧ (K (F x0 10)).1 = 6 ∧ (∀ F7, F7 = pUp F (F x0 11) 1 (F (F x0 10) 12) → (K (F (F x0 11) 0)).1 = 20 ∧ (0 : Int) ≤ F (F x0 10) 10 ∧ (K (F (F x0 10) 10)).1 = 20 ∧ (0 : Int) ≤ F (F x0 11) 0 ∧ ((0 : Int) ≤ 0 ∧ (0 : Int) ≤ 0 ∧ (0 : Int) ≤ ((K (F (F x0 11) 0)).2 : Int) ∧ 0 + ((K (F (F x0 11) 0)).2 : Int) ≤ ((K (F (F x0 10) 10)).2 : Int) ∧ 0 + ((K (F (F x0 11) 0)).2 : Int) ≤ ((K (F (F x0 11) 0)).2 : Int)) ∧ (∀ E8, E8 = pRow E (F (F x0 11) 0) (pCpy E (F (F x0 10) 10) 0 (F (F x0 11) 0) 0 ((K (F (F x0 11) 0)).2 : Int)) → ((0 ≤ s0 → (∀ F9, F9 = pUp F7 (F x0 11) 3 (F (F x0 10) 13) → (∀ F10, F10 = pUp F9 (F x0 11) 4 (F (F x0 10) 14) → (K (F (F x0 11) 2)).1 = 20 ∧ (0 : Int) ≤ F (F x0 10) 11 ∧ (K (F (F x0 10) 11)).1 = 20 ∧ (0 : Int) ≤ F (F x0 11) 2 ∧ ((0 : Int) ≤ 0 ∧ (0 : Int) ≤ 0 ∧ (0 : Int) ≤ ((K (F (F x0 11) 2)).2 : Int) ∧ 0 + ((K (F (F x0 11) 2)).2 : Int) ≤ ((K (F (F x0 10) 11)).2 : Int) ∧ 0 + ((K (F (F x0 11) 2)).2 : Int) ≤ ((K (F (F x0 11) 2)).2 : Int)) ∧ (∀ E11, E11 = pRow E8 (F (F x0 11) 2) (pCpy E8 (F (F x0 10) 11) 0 (F (F x0 11) 2) 0 ((K (F (F x0 11) 2)).2 : Int)) → PC l G 1 mX11_settle (0, 0) [(2, x0), (0, s0)] (n, K, F10, E11) (fun r μ => PW l G 32 mX11_come bg 65 [] (r.toList ++ []) μ Q))))) ∧ (¬ (0 ≤ s0) → ((¬ s0 = (-5) → PC l G 1 mX11_settle (0, 0) [(2, x0), (0, s0)] (n, K, F7, E8) (fun r μ => PW l G 32 mX11_come bg 65 [] (r.toList ++ []) μ Q)) ∧ (s0 = (-5) → (∀ F12, F12 = pUp F7 (F x0 11) 3 (F (F x0 10) 13) → (∀ F13, F13 = pUp F12 (F x0 11) 4 (F (F x0 10) 14) → (K (F (F x0 11) 2)).1 = 20 ∧ (0 : Int) ≤ F (F x0 10) 11 ∧ (K (F (F x0 10) 11)).1 = 20 ∧ (0 : Int) ≤ F (F x0 11) 2 ∧ ((0 : Int) ≤ 0 ∧ (0 : Int) ≤ 0 ∧ (0 : Int) ≤ ((K (F (F x0 11) 2)).2 : Int) ∧ 0 + ((K (F (F x0 11) 2)).2 : Int) ≤ ((K (F (F x0 10) 11)).2 : Int) ∧ 0 + ((K (F (F x0 11) 2)).2 : Int) ≤ ((K (F (F x0 11) 2)).2 : Int)) ∧ (∀ E14, E14 = pRow E8 (F (F x0 11) 2) (pCpy E8 (F (F x0 10) 11) 0 (F (F x0 11) 2) 0 ((K (F (F x0 11) 2)).2 : Int)) → PC l G 1 mX11_settle (0, 0) [(2, x0), (0, s0)] (n, K, F13, E14) (fun r μ => PW l G 32 mX11_come bg 65 [] (r.toList ++ []) μ Q))))))))))))) : PW l G 32 mX11_come bg 18 [(0, (2, x0))] [(0, s0)] (n, K, F, E) Q := by
  refine s_istore (q := 20) (lv' := [(4, (0, s0)), (0, (2, x0))]) 10 rfl rfl ?_
  refine s_iload (q := 22) 11 0 rfl rfl ?_
  refine s_if_lt (q := 25) (tgt := 36) 12 rfl rfl (fun hb => ?_) (fun hb => ?_)
  · skip
    have b1 := hb
    replace h := h.1 hb
    refine s_iload (q := 38) 18 0 rfl rfl ?_
    refine s_if_ge (q := 41) (tgt := 48) 19 rfl rfl (fun hb => ?_) (fun hb => ?_)
    · skip
      have b2 := hb
      replace h := h.1 hb
      refine s_aload_n (q := 49) 23 1 rfl rfl ?_
      obtain ⟨c3, h⟩ := h
      refine n_getf (q := 52) (jj := 11) 24 11 11 rfl kX11_76 c3 ?_
      refine s_aload_n (q := 53) 25 1 rfl rfl ?_
      refine n_getf (q := 56) (jj := 10) 26 11 10 rfl kX11_69 c3 ?_
      obtain ⟨c4, h⟩ := h
      refine n_callV (N := mX2_keepShut) (as := [(2, F x0 10)]) (st := []) (q := 59) (d' := 0) 27 rfl uX2_keepShut kX11_232 rfl c4 ?_
      show PW l G 0 mX2_keepShut (0, 0) 0 [(0, (2, F x0 11)), (1, (2, F x0 10))] [] (n, K, F, E) _
      refine s_aload_n (q := 1) 0 0 rfl rfl ?_
      refine s_aload_n (q := 2) 1 1 rfl rfl ?_
      obtain ⟨c5, h⟩ := h
      refine n_getf (q := 5) (jj := 13) 2 6 13 rfl kX2_38 c5 ?_
      refine n_putf (q := 8) (jj := 3) 3 2 3 rfl kX2_22 c4 (Or.inl rfl) ?_
      refine PW.nameF (fun F1 eF1 => ?_)
      replace h := h F1 eF1
      refine s_aload_n (q := 9) 4 0 rfl rfl ?_
      refine s_aload_n (q := 10) 5 1 rfl rfl ?_
      refine n_getf (q := 13) (jj := 14) 6 6 14 rfl kX2_39 c5 ?_
      refine PW.top (b := F (F x0 10) 14) (by exact (congrFun (congrFun eF1 _) _).trans (pUp_K c4 c5 (by decide))) ?_
      refine n_putf (q := 16) (jj := 4) 7 2 4 rfl kX2_25 c4 (Or.inl rfl) ?_
      refine PW.nameF (fun F2 eF2 => ?_)
      replace h := h F2 eF2
      refine s_aload_n (q := 17) 8 1 rfl rfl ?_
      refine n_getf (q := 20) (jj := 11) 9 6 11 rfl kX2_40 c5 ?_
      refine PW.top (b := F (F x0 10) 11) (by refine (congrFun (congrFun eF2 _) _).trans ((pUp_K c4 c5 (by decide)).trans ?_); exact (congrFun (congrFun eF1 _) _).trans (pUp_K c4 c5 (by decide))) ?_
      refine s_iconst (q := 21) 10 rfl ?_
      refine s_aload_n (q := 22) 11 0 rfl rfl ?_
      refine n_getf (q := 25) (jj := 2) 12 2 2 rfl kX2_19 c4 ?_
      refine PW.top (b := F (F x0 11) 2) (by refine (congrFun (congrFun eF2 _) _).trans ((pUp_k (by decide)).trans ?_); exact (congrFun (congrFun eF1 _) _).trans (pUp_k (by decide))) ?_
      refine s_iconst (q := 26) 13 rfl ?_
      refine s_aload_n (q := 27) 14 0 rfl rfl ?_
      refine n_getf (q := 30) (jj := 2) 15 2 2 rfl kX2_19 c4 ?_
      refine PW.top (b := F (F x0 11) 2) (by refine (congrFun (congrFun eF2 _) _).trans ((pUp_k (by decide)).trans ?_); exact (congrFun (congrFun eF1 _) _).trans (pUp_k (by decide))) ?_
      obtain ⟨c6, h⟩ := h
      refine n_alen (q := 31) 16 0 rfl c6 ?_
      obtain ⟨c7, h⟩ := h
      obtain ⟨c8, h⟩ := h
      obtain ⟨c9, h⟩ := h
      obtain ⟨c10, h⟩ := h
      refine n_copy (q := 34) 17 rfl kX2_32 c7 c8 c9 c6 c10 ?_
      refine PW.nameE (fun E3 eE3 => ?_)
      replace h := h E3 eE3
      refine s_vret 18 rfl rfl ?_
      show PW l G 32 mX11_come bg 59 [(4, (0, s0)), (0, (2, x0))] [] (n, K, F2, E3) Q
      refine s_aload_n (q := 60) 28 1 rfl rfl ?_
      refine s_iload (q := 62) 29 0 rfl rfl ?_
      refine PW.pick [] rfl ?_
      exact n_callV (N := mX11_settle) (as := [(0, s0)]) (st := []) (q := 65) (d' := 1) 30 rfl uX11_settle kX11_235 rfl c3 h
    · skip
      have b2 := hb
      replace h := h.2 hb
      refine s_iload (q := 43) 20 0 rfl rfl ?_
      refine s_bipush (q := 45) 21 rfl ?_
      refine s_icmp_ne (q := 48) (tgt := 59) 22 rfl rfl (fun hb => ?_) (fun hb => ?_)
      · skip
        have b11 := hb
        replace h := h.1 hb
        refine s_aload_n (q := 60) 28 1 rfl rfl ?_
        refine s_iload (q := 62) 29 0 rfl rfl ?_
        obtain ⟨c12, h⟩ := h
        refine PW.pick [] rfl ?_
        exact n_callV (N := mX11_settle) (as := [(0, s0)]) (st := []) (q := 65) (d' := 1) 30 rfl uX11_settle kX11_235 rfl c12 h
      · have hb := Classical.not_not.mp hb
        have b11 := hb
        replace h := h.2 hb
        refine s_aload_n (q := 49) 23 1 rfl rfl ?_
        obtain ⟨c13, h⟩ := h
        refine n_getf (q := 52) (jj := 11) 24 11 11 rfl kX11_76 c13 ?_
        refine s_aload_n (q := 53) 25 1 rfl rfl ?_
        refine n_getf (q := 56) (jj := 10) 26 11 10 rfl kX11_69 c13 ?_
        obtain ⟨c14, h⟩ := h
        refine n_callV (N := mX2_keepShut) (as := [(2, F x0 10)]) (st := []) (q := 59) (d' := 0) 27 rfl uX2_keepShut kX11_232 rfl c14 ?_
        show PW l G 0 mX2_keepShut (0, 0) 0 [(0, (2, F x0 11)), (1, (2, F x0 10))] [] (n, K, F, E) _
        refine s_aload_n (q := 1) 0 0 rfl rfl ?_
        refine s_aload_n (q := 2) 1 1 rfl rfl ?_
        obtain ⟨c15, h⟩ := h
        refine n_getf (q := 5) (jj := 13) 2 6 13 rfl kX2_38 c15 ?_
        refine n_putf (q := 8) (jj := 3) 3 2 3 rfl kX2_22 c14 (Or.inl rfl) ?_
        refine PW.nameF (fun F4 eF4 => ?_)
        replace h := h F4 eF4
        refine s_aload_n (q := 9) 4 0 rfl rfl ?_
        refine s_aload_n (q := 10) 5 1 rfl rfl ?_
        refine n_getf (q := 13) (jj := 14) 6 6 14 rfl kX2_39 c15 ?_
        refine PW.top (b := F (F x0 10) 14) (by exact (congrFun (congrFun eF4 _) _).trans (pUp_K c14 c15 (by decide))) ?_
        refine n_putf (q := 16) (jj := 4) 7 2 4 rfl kX2_25 c14 (Or.inl rfl) ?_
        refine PW.nameF (fun F5 eF5 => ?_)
        replace h := h F5 eF5
        refine s_aload_n (q := 17) 8 1 rfl rfl ?_
        refine n_getf (q := 20) (jj := 11) 9 6 11 rfl kX2_40 c15 ?_
        refine PW.top (b := F (F x0 10) 11) (by refine (congrFun (congrFun eF5 _) _).trans ((pUp_K c14 c15 (by decide)).trans ?_); exact (congrFun (congrFun eF4 _) _).trans (pUp_K c14 c15 (by decide))) ?_
        refine s_iconst (q := 21) 10 rfl ?_
        refine s_aload_n (q := 22) 11 0 rfl rfl ?_
        refine n_getf (q := 25) (jj := 2) 12 2 2 rfl kX2_19 c14 ?_
        refine PW.top (b := F (F x0 11) 2) (by refine (congrFun (congrFun eF5 _) _).trans ((pUp_k (by decide)).trans ?_); exact (congrFun (congrFun eF4 _) _).trans (pUp_k (by decide))) ?_
        refine s_iconst (q := 26) 13 rfl ?_
        refine s_aload_n (q := 27) 14 0 rfl rfl ?_
        refine n_getf (q := 30) (jj := 2) 15 2 2 rfl kX2_19 c14 ?_
        refine PW.top (b := F (F x0 11) 2) (by refine (congrFun (congrFun eF5 _) _).trans ((pUp_k (by decide)).trans ?_); exact (congrFun (congrFun eF4 _) _).trans (pUp_k (by decide))) ?_
        obtain ⟨c16, h⟩ := h
        refine n_alen (q := 31) 16 0 rfl c16 ?_
        obtain ⟨c17, h⟩ := h
        obtain ⟨c18, h⟩ := h
        obtain ⟨c19, h⟩ := h
        obtain ⟨c20, h⟩ := h
        refine n_copy (q := 34) 17 rfl kX2_32 c17 c18 c19 c16 c20 ?_
        refine PW.nameE (fun E6 eE6 => ?_)
        replace h := h E6 eE6
        refine s_vret 18 rfl rfl ?_
        show PW l G 32 mX11_come bg 59 [(4, (0, s0)), (0, (2, x0))] [] (n, K, F5, E6) Q
        refine s_aload_n (q := 60) 28 1 rfl rfl ?_
        refine s_iload (q := 62) 29 0 rfl rfl ?_
        refine PW.pick [] rfl ?_
        exact n_callV (N := mX11_settle) (as := [(0, s0)]) (st := []) (q := 65) (d' := 1) 30 rfl uX11_settle kX11_235 rfl c13 h
  · skip
    have b1 := hb
    replace h := h.2 hb
    refine s_aload_n (q := 26) 13 1 rfl rfl ?_
    obtain ⟨c21, h⟩ := h
    refine n_getf (q := 29) (jj := 11) 14 11 11 rfl kX11_76 c21 ?_
    refine s_aload_n (q := 30) 15 1 rfl rfl ?_
    refine n_getf (q := 33) (jj := 10) 16 11 10 rfl kX11_69 c21 ?_
    obtain ⟨c22, h⟩ := h
    refine n_callV (N := mX2_keepResults) (as := [(2, F x0 10)]) (st := []) (q := 36) (d' := 0) 17 rfl uX2_keepResults kX11_228 rfl c22 ?_
    show PW l G 0 mX2_keepResults (0, 0) 0 [(0, (2, F x0 11)), (1, (2, F x0 10))] [] (n, K, F, E) _
    refine s_aload_n (q := 1) 0 0 rfl rfl ?_
    refine s_aload_n (q := 2) 1 1 rfl rfl ?_
    obtain ⟨c23, h⟩ := h
    refine n_getf (q := 5) (jj := 12) 2 6 12 rfl kX2_28 c23 ?_
    refine n_putf (q := 8) (jj := 1) 3 2 1 rfl kX2_15 c22 (Or.inl rfl) ?_
    refine PW.nameF (fun F7 eF7 => ?_)
    replace h := h F7 eF7
    refine s_aload_n (q := 9) 4 1 rfl rfl ?_
    refine n_getf (q := 12) (jj := 10) 5 6 10 rfl kX2_31 c23 ?_
    refine PW.top (b := F (F x0 10) 10) (by exact (congrFun (congrFun eF7 _) _).trans (pUp_K c22 c23 (by decide))) ?_
    refine s_iconst (q := 13) 6 rfl ?_
    refine s_aload_n (q := 14) 7 0 rfl rfl ?_
    refine n_getf (q := 17) (jj := 0) 8 2 0 rfl kX2_9 c22 ?_
    refine PW.top (b := F (F x0 11) 0) (by exact (congrFun (congrFun eF7 _) _).trans (pUp_k (by decide))) ?_
    refine s_iconst (q := 18) 9 rfl ?_
    refine s_aload_n (q := 19) 10 0 rfl rfl ?_
    refine n_getf (q := 22) (jj := 0) 11 2 0 rfl kX2_9 c22 ?_
    refine PW.top (b := F (F x0 11) 0) (by exact (congrFun (congrFun eF7 _) _).trans (pUp_k (by decide))) ?_
    obtain ⟨c24, h⟩ := h
    refine n_alen (q := 23) 12 0 rfl c24 ?_
    obtain ⟨c25, h⟩ := h
    obtain ⟨c26, h⟩ := h
    obtain ⟨c27, h⟩ := h
    obtain ⟨c28, h⟩ := h
    refine n_copy (q := 26) 13 rfl kX2_32 c25 c26 c27 c24 c28 ?_
    refine PW.nameE (fun E8 eE8 => ?_)
    replace h := h E8 eE8
    refine s_vret 14 rfl rfl ?_
    show PW l G 32 mX11_come bg 36 [(4, (0, s0)), (0, (2, x0))] [] (n, K, F7, E8) Q
    refine s_iload (q := 38) 18 0 rfl rfl ?_
    refine s_if_ge (q := 41) (tgt := 48) 19 rfl rfl (fun hb => ?_) (fun hb => ?_)
    · skip
      have b29 := hb
      replace h := h.1 hb
      refine s_aload_n (q := 49) 23 1 rfl rfl ?_
      refine n_getf (q := 52) (jj := 11) 24 11 11 rfl kX11_76 c21 ?_
      refine PW.top (b := F x0 11) (by exact (congrFun (congrFun eF7 _) _).trans (pUp_K c22 c21 (by decide))) ?_
      refine s_aload_n (q := 53) 25 1 rfl rfl ?_
      refine n_getf (q := 56) (jj := 10) 26 11 10 rfl kX11_69 c21 ?_
      refine PW.top (b := F x0 10) (by exact (congrFun (congrFun eF7 _) _).trans (pUp_K c22 c21 (by decide))) ?_
      refine n_callV (N := mX2_keepShut) (as := [(2, F x0 10)]) (st := []) (q := 59) (d' := 0) 27 rfl uX2_keepShut kX11_232 rfl c22 ?_
      show PW l G 0 mX2_keepShut (0, 0) 0 [(0, (2, F x0 11)), (1, (2, F x0 10))] [] (n, K, F7, E8) _
      refine s_aload_n (q := 1) 0 0 rfl rfl ?_
      refine s_aload_n (q := 2) 1 1 rfl rfl ?_
      refine n_getf (q := 5) (jj := 13) 2 6 13 rfl kX2_38 c23 ?_
      refine PW.top (b := F (F x0 10) 13) (by exact (congrFun (congrFun eF7 _) _).trans (pUp_K c22 c23 (by decide))) ?_
      refine n_putf (q := 8) (jj := 3) 3 2 3 rfl kX2_22 c22 (Or.inl rfl) ?_
      refine PW.nameF (fun F9 eF9 => ?_)
      replace h := h F9 eF9
      refine s_aload_n (q := 9) 4 0 rfl rfl ?_
      refine s_aload_n (q := 10) 5 1 rfl rfl ?_
      refine n_getf (q := 13) (jj := 14) 6 6 14 rfl kX2_39 c23 ?_
      refine PW.top (b := F (F x0 10) 14) (by refine (congrFun (congrFun eF9 _) _).trans ((pUp_K c22 c23 (by decide)).trans ?_); exact (congrFun (congrFun eF7 _) _).trans (pUp_K c22 c23 (by decide))) ?_
      refine n_putf (q := 16) (jj := 4) 7 2 4 rfl kX2_25 c22 (Or.inl rfl) ?_
      refine PW.nameF (fun F10 eF10 => ?_)
      replace h := h F10 eF10
      refine s_aload_n (q := 17) 8 1 rfl rfl ?_
      refine n_getf (q := 20) (jj := 11) 9 6 11 rfl kX2_40 c23 ?_
      refine PW.top (b := F (F x0 10) 11) (by refine (congrFun (congrFun eF10 _) _).trans ((pUp_K c22 c23 (by decide)).trans ?_); refine (congrFun (congrFun eF9 _) _).trans ((pUp_K c22 c23 (by decide)).trans ?_); exact (congrFun (congrFun eF7 _) _).trans (pUp_K c22 c23 (by decide))) ?_
      refine s_iconst (q := 21) 10 rfl ?_
      refine s_aload_n (q := 22) 11 0 rfl rfl ?_
      refine n_getf (q := 25) (jj := 2) 12 2 2 rfl kX2_19 c22 ?_
      refine PW.top (b := F (F x0 11) 2) (by refine (congrFun (congrFun eF10 _) _).trans ((pUp_k (by decide)).trans ?_); refine (congrFun (congrFun eF9 _) _).trans ((pUp_k (by decide)).trans ?_); exact (congrFun (congrFun eF7 _) _).trans (pUp_k (by decide))) ?_
      refine s_iconst (q := 26) 13 rfl ?_
      refine s_aload_n (q := 27) 14 0 rfl rfl ?_
      refine n_getf (q := 30) (jj := 2) 15 2 2 rfl kX2_19 c22 ?_
      refine PW.top (b := F (F x0 11) 2) (by refine (congrFun (congrFun eF10 _) _).trans ((pUp_k (by decide)).trans ?_); refine (congrFun (congrFun eF9 _) _).trans ((pUp_k (by decide)).trans ?_); exact (congrFun (congrFun eF7 _) _).trans (pUp_k (by decide))) ?_
      obtain ⟨c30, h⟩ := h
      refine n_alen (q := 31) 16 0 rfl c30 ?_
      obtain ⟨c31, h⟩ := h
      obtain ⟨c32, h⟩ := h
      obtain ⟨c33, h⟩ := h
      obtain ⟨c34, h⟩ := h
      refine n_copy (q := 34) 17 rfl kX2_32 c31 c32 c33 c30 c34 ?_
      refine PW.nameE (fun E11 eE11 => ?_)
      replace h := h E11 eE11
      refine s_vret 18 rfl rfl ?_
      show PW l G 32 mX11_come bg 59 [(4, (0, s0)), (0, (2, x0))] [] (n, K, F10, E11) Q
      refine s_aload_n (q := 60) 28 1 rfl rfl ?_
      refine s_iload (q := 62) 29 0 rfl rfl ?_
      refine PW.pick [] rfl ?_
      exact n_callV (N := mX11_settle) (as := [(0, s0)]) (st := []) (q := 65) (d' := 1) 30 rfl uX11_settle kX11_235 rfl c21 h
    · skip
      have b29 := hb
      replace h := h.2 hb
      refine s_iload (q := 43) 20 0 rfl rfl ?_
      refine s_bipush (q := 45) 21 rfl ?_
      refine s_icmp_ne (q := 48) (tgt := 59) 22 rfl rfl (fun hb => ?_) (fun hb => ?_)
      · skip
        have b35 := hb
        replace h := h.1 hb
        refine s_aload_n (q := 60) 28 1 rfl rfl ?_
        refine s_iload (q := 62) 29 0 rfl rfl ?_
        refine PW.pick [] rfl ?_
        exact n_callV (N := mX11_settle) (as := [(0, s0)]) (st := []) (q := 65) (d' := 1) 30 rfl uX11_settle kX11_235 rfl c21 h
      · have hb := Classical.not_not.mp hb
        have b35 := hb
        replace h := h.2 hb
        refine s_aload_n (q := 49) 23 1 rfl rfl ?_
        refine n_getf (q := 52) (jj := 11) 24 11 11 rfl kX11_76 c21 ?_
        refine PW.top (b := F x0 11) (by exact (congrFun (congrFun eF7 _) _).trans (pUp_K c22 c21 (by decide))) ?_
        refine s_aload_n (q := 53) 25 1 rfl rfl ?_
        refine n_getf (q := 56) (jj := 10) 26 11 10 rfl kX11_69 c21 ?_
        refine PW.top (b := F x0 10) (by exact (congrFun (congrFun eF7 _) _).trans (pUp_K c22 c21 (by decide))) ?_
        refine n_callV (N := mX2_keepShut) (as := [(2, F x0 10)]) (st := []) (q := 59) (d' := 0) 27 rfl uX2_keepShut kX11_232 rfl c22 ?_
        show PW l G 0 mX2_keepShut (0, 0) 0 [(0, (2, F x0 11)), (1, (2, F x0 10))] [] (n, K, F7, E8) _
        refine s_aload_n (q := 1) 0 0 rfl rfl ?_
        refine s_aload_n (q := 2) 1 1 rfl rfl ?_
        refine n_getf (q := 5) (jj := 13) 2 6 13 rfl kX2_38 c23 ?_
        refine PW.top (b := F (F x0 10) 13) (by exact (congrFun (congrFun eF7 _) _).trans (pUp_K c22 c23 (by decide))) ?_
        refine n_putf (q := 8) (jj := 3) 3 2 3 rfl kX2_22 c22 (Or.inl rfl) ?_
        refine PW.nameF (fun F12 eF12 => ?_)
        replace h := h F12 eF12
        refine s_aload_n (q := 9) 4 0 rfl rfl ?_
        refine s_aload_n (q := 10) 5 1 rfl rfl ?_
        refine n_getf (q := 13) (jj := 14) 6 6 14 rfl kX2_39 c23 ?_
        refine PW.top (b := F (F x0 10) 14) (by refine (congrFun (congrFun eF12 _) _).trans ((pUp_K c22 c23 (by decide)).trans ?_); exact (congrFun (congrFun eF7 _) _).trans (pUp_K c22 c23 (by decide))) ?_
        refine n_putf (q := 16) (jj := 4) 7 2 4 rfl kX2_25 c22 (Or.inl rfl) ?_
        refine PW.nameF (fun F13 eF13 => ?_)
        replace h := h F13 eF13
        refine s_aload_n (q := 17) 8 1 rfl rfl ?_
        refine n_getf (q := 20) (jj := 11) 9 6 11 rfl kX2_40 c23 ?_
        refine PW.top (b := F (F x0 10) 11) (by refine (congrFun (congrFun eF13 _) _).trans ((pUp_K c22 c23 (by decide)).trans ?_); refine (congrFun (congrFun eF12 _) _).trans ((pUp_K c22 c23 (by decide)).trans ?_); exact (congrFun (congrFun eF7 _) _).trans (pUp_K c22 c23 (by decide))) ?_
        refine s_iconst (q := 21) 10 rfl ?_
        refine s_aload_n (q := 22) 11 0 rfl rfl ?_
        refine n_getf (q := 25) (jj := 2) 12 2 2 rfl kX2_19 c22 ?_
        refine PW.top (b := F (F x0 11) 2) (by refine (congrFun (congrFun eF13 _) _).trans ((pUp_k (by decide)).trans ?_); refine (congrFun (congrFun eF12 _) _).trans ((pUp_k (by decide)).trans ?_); exact (congrFun (congrFun eF7 _) _).trans (pUp_k (by decide))) ?_
        refine s_iconst (q := 26) 13 rfl ?_
        refine s_aload_n (q := 27) 14 0 rfl rfl ?_
        refine n_getf (q := 30) (jj := 2) 15 2 2 rfl kX2_19 c22 ?_
        refine PW.top (b := F (F x0 11) 2) (by refine (congrFun (congrFun eF13 _) _).trans ((pUp_k (by decide)).trans ?_); refine (congrFun (congrFun eF12 _) _).trans ((pUp_k (by decide)).trans ?_); exact (congrFun (congrFun eF7 _) _).trans (pUp_k (by decide))) ?_
        obtain ⟨c36, h⟩ := h
        refine n_alen (q := 31) 16 0 rfl c36 ?_
        obtain ⟨c37, h⟩ := h
        obtain ⟨c38, h⟩ := h
        obtain ⟨c39, h⟩ := h
        obtain ⟨c40, h⟩ := h
        refine n_copy (q := 34) 17 rfl kX2_32 c37 c38 c39 c36 c40 ?_
        refine PW.nameE (fun E14 eE14 => ?_)
        replace h := h E14 eE14
        refine s_vret 18 rfl rfl ?_
        show PW l G 32 mX11_come bg 59 [(4, (0, s0)), (0, (2, x0))] [] (n, K, F13, E14) Q
        refine s_aload_n (q := 60) 28 1 rfl rfl ?_
        refine s_iload (q := 62) 29 0 rfl rfl ?_
        refine PW.pick [] rfl ?_
        exact n_callV (N := mX11_settle) (as := [(0, s0)]) (st := []) (q := 65) (d' := 1) 30 rfl uX11_settle kX11_235 rfl c21 h
theorem vX11_come_65 {l : Launch} {G : pG} {bg : Nat × Nat} {n : Nat} {K : Int → Nat × Nat} {F E : Int → Int → Int} {Q : Option pV → pM → Prop} (s0 : Int) (h : Q (some (0, s0)) (n, K, F, E)) : PW l G 32 mX11_come bg 65 [] [(0, s0)] (n, K, F, E) Q := by
  exact s_iret 31 rfl rfl h
theorem vX11_strike_0 {l : Launch} {G : pG} {bg : Nat × Nat} {n : Nat} {K : Int → Nat × Nat} {F E : Int → Int → Int} {Q : Option pV → pM → Prop} (x0 x1 : Int) (h : (K x0).1 = 11 ∧ PC l G 1 mX11_strikeOut (0, 0) [(2, x0), (0, x1)] (n, K, F, E) (fun r μ => PW l G 2 mX11_strike bg 6 [] (r.toList ++ [(2, x0)]) μ Q)) : PW l G 2 mX11_strike bg 0 [(0, (2, x0)), (1, (0, x1))] [] (n, K, F, E) Q := by
  refine s_aload_n (q := 1) 0 0 rfl rfl ?_
  refine s_aload_n (q := 2) 1 0 rfl rfl ?_
  refine s_iload_n (q := 3) 2 1 rfl rfl ?_
  obtain ⟨c1, h⟩ := h
  refine PW.pick [] rfl ?_
  exact n_callV (N := mX11_strikeOut) (as := [(0, x1)]) (st := [(2, x0)]) (q := 6) (d' := 1) 3 rfl uX11_strikeOut kX11_238 rfl c1 h
theorem vX11_strike_6 {l : Launch} {G : pG} {bg : Nat × Nat} {n : Nat} {K : Int → Nat × Nat} {F E : Int → Int → Int} {Q : Option pV → pM → Prop} (s0 s1 : Int) (h : (K s1).1 = 11 ∧ PC l G 1 mX11_settle (0, 0) [(2, s1), (0, s0)] (n, K, F, E) (fun r μ => PW l G 2 mX11_strike bg 9 [] (r.toList ++ []) μ Q)) : PW l G 2 mX11_strike bg 6 [] [(0, s0), (2, s1)] (n, K, F, E) Q := by
  obtain ⟨c1, h⟩ := h
  refine PW.pick [] rfl ?_
  exact n_callV (N := mX11_settle) (as := [(0, s0)]) (st := []) (q := 9) (d' := 1) 4 rfl uX11_settle kX11_235 rfl c1 h
theorem vX11_strike_9 {l : Launch} {G : pG} {bg : Nat × Nat} {n : Nat} {K : Int → Nat × Nat} {F E : Int → Int → Int} {Q : Option pV → pM → Prop} (s0 : Int) (h : Q (some (0, s0)) (n, K, F, E)) : PW l G 2 mX11_strike bg 9 [] [(0, s0)] (n, K, F, E) Q := by
  exact s_iret 5 rfl rfl h
theorem vX11_window_0 {l : Launch} {G : pG} {bg : Nat × Nat} {n : Nat} {K : Int → Nat × Nat} {F E : Int → Int → Int} {Q : Option pV → pM → Prop} (x0 x1 x2 : Int) (h : (K x0).1 = 11 ∧ PC l G 2 mX11_changeWindow (0, 0) [(2, x0), (0, x1), (0, x2)] (n, K, F, E) (fun r μ => PW l G 3 mX11_window bg 7 [] (r.toList ++ [(2, x0)]) μ Q)) : PW l G 3 mX11_window bg 0 [(0, (2, x0)), (1, (0, x1)), (2, (0, x2))] [] (n, K, F, E) Q := by
  refine s_aload_n (q := 1) 0 0 rfl rfl ?_
  refine s_aload_n (q := 2) 1 0 rfl rfl ?_
  refine s_iload_n (q := 3) 2 1 rfl rfl ?_
  refine s_iload_n (q := 4) 3 2 rfl rfl ?_
  obtain ⟨c1, h⟩ := h
  refine PW.pick [] rfl ?_
  exact n_callV (N := mX11_changeWindow) (as := [(0, x1), (0, x2)]) (st := [(2, x0)]) (q := 7) (d' := 2) 4 rfl uX11_changeWindow kX11_241 rfl c1 h
theorem vX11_window_7 {l : Launch} {G : pG} {bg : Nat × Nat} {n : Nat} {K : Int → Nat × Nat} {F E : Int → Int → Int} {Q : Option pV → pM → Prop} (s0 s1 : Int) (h : (K s1).1 = 11 ∧ PC l G 1 mX11_settle (0, 0) [(2, s1), (0, s0)] (n, K, F, E) (fun r μ => PW l G 3 mX11_window bg 10 [] (r.toList ++ []) μ Q)) : PW l G 3 mX11_window bg 7 [] [(0, s0), (2, s1)] (n, K, F, E) Q := by
  obtain ⟨c1, h⟩ := h
  refine PW.pick [] rfl ?_
  exact n_callV (N := mX11_settle) (as := [(0, s0)]) (st := []) (q := 10) (d' := 1) 5 rfl uX11_settle kX11_235 rfl c1 h
theorem vX11_window_10 {l : Launch} {G : pG} {bg : Nat × Nat} {n : Nat} {K : Int → Nat × Nat} {F E : Int → Int → Int} {Q : Option pV → pM → Prop} (s0 : Int) (h : Q (some (0, s0)) (n, K, F, E)) : PW l G 3 mX11_window bg 10 [] [(0, s0)] (n, K, F, E) Q := by
  exact s_iret 6 rfl rfl h
theorem vX11_index_0 {l : Launch} {G : pG} {bg : Nat × Nat} {n : Nat} {K : Int → Nat × Nat} {F E : Int → Int → Int} {Q : Option pV → pM → Prop} (x0 x1 x2 : Int) (h : (K x0).1 = 11 ∧ PC l G 1 mX11_changeIndex (0, 0) [(2, x0), (0, x1), (0, x2)] (n, K, F, E) (fun r μ => PW l G 2 mX11_index bg 7 [] (r.toList ++ [(2, x0)]) μ Q)) : PW l G 2 mX11_index bg 0 [(0, (2, x0)), (1, (0, x1)), (2, (0, x2))] [] (n, K, F, E) Q := by
  refine s_aload_n (q := 1) 0 0 rfl rfl ?_
  refine s_aload_n (q := 2) 1 0 rfl rfl ?_
  refine s_iload_n (q := 3) 2 1 rfl rfl ?_
  refine s_iload_n (q := 4) 3 2 rfl rfl ?_
  obtain ⟨c1, h⟩ := h
  refine PW.pick [] rfl ?_
  exact n_callV (N := mX11_changeIndex) (as := [(0, x1), (0, x2)]) (st := [(2, x0)]) (q := 7) (d' := 1) 4 rfl uX11_changeIndex kX11_244 rfl c1 h
theorem vX11_index_7 {l : Launch} {G : pG} {bg : Nat × Nat} {n : Nat} {K : Int → Nat × Nat} {F E : Int → Int → Int} {Q : Option pV → pM → Prop} (s0 s1 : Int) (h : (K s1).1 = 11 ∧ PC l G 1 mX11_settle (0, 0) [(2, s1), (0, s0)] (n, K, F, E) (fun r μ => PW l G 2 mX11_index bg 10 [] (r.toList ++ []) μ Q)) : PW l G 2 mX11_index bg 7 [] [(0, s0), (2, s1)] (n, K, F, E) Q := by
  obtain ⟨c1, h⟩ := h
  refine PW.pick [] rfl ?_
  exact n_callV (N := mX11_settle) (as := [(0, s0)]) (st := []) (q := 10) (d' := 1) 5 rfl uX11_settle kX11_235 rfl c1 h
theorem vX11_index_10 {l : Launch} {G : pG} {bg : Nat × Nat} {n : Nat} {K : Int → Nat × Nat} {F E : Int → Int → Int} {Q : Option pV → pM → Prop} (s0 : Int) (h : Q (some (0, s0)) (n, K, F, E)) : PW l G 2 mX11_index bg 10 [] [(0, s0)] (n, K, F, E) Q := by
  exact s_iret 6 rfl rfl h
theorem vX11_undo_0 {l : Launch} {G : pG} {bg : Nat × Nat} {n : Nat} {K : Int → Nat × Nat} {F E : Int → Int → Int} {Q : Option pV → pM → Prop} (x0 : Int) (h : (K x0).1 = 11 ∧ (K (F x0 3)).1 = 3 ∧ ((¬ (F (F x0 3) 3) = 0 → (K (F x0 0)).1 = 1 ∧ PC l G 0 mX3_pop (0, 0) [(2, F x0 3), (2, F (F x0 0) 0)] (n, K, F, E) (fun r μ => PW l G 1 mX11_undo bg 32 [] (r.toList ++ [(2, x0)]) μ Q)) ∧ ((F (F x0 3) 3) = 0 → (∀ F1, F1 = pUp F x0 16 (-3) → (K (F x0 13)).1 = 20 ∧ ((0 : Int) ≤ 2 ∧ 2 < ((K (F x0 13)).2 : Int)) ∧ (0 : Int) ≤ F x0 13 ∧ (∀ E2, E2 = pUp E (F x0 13) 2 (w32 ((E (F x0 13) 2) + 1)) → Q (some (0, (-3))) (n, K, F1, E2)))))) : PW l G 1 mX11_undo bg 0 [(0, (2, x0))] [] (n, K, F, E) Q := by
  refine s_aload_n (q := 1) 0 0 rfl rfl ?_
  obtain ⟨c1, h⟩ := h
  refine n_getf (q := 4) (jj := 3) 1 11 3 rfl kX11_27 c1 ?_
  obtain ⟨c2, h⟩ := h
  refine n_getf (q := 7) (jj := 3) 2 3 3 rfl kX11_176 c2 ?_
  refine s_if_ne (q := 10) (tgt := 17) 3 rfl rfl (fun hb => ?_) (fun hb => ?_)
  · skip
    have b3 := hb
    replace h := h.1 hb
    refine s_aload_n (q := 18) 8 0 rfl rfl ?_
    refine s_aload_n (q := 19) 9 0 rfl rfl ?_
    refine n_getf (q := 22) (jj := 3) 10 11 3 rfl kX11_27 c1 ?_
    refine s_aload_n (q := 23) 11 0 rfl rfl ?_
    refine n_getf (q := 26) (jj := 0) 12 11 0 rfl kX11_10 c1 ?_
    obtain ⟨c4, h⟩ := h
    refine n_getf (q := 29) (jj := 0) 13 1 0 rfl kX11_125 c4 ?_
    refine PW.pick [] rfl ?_
    exact n_callV (N := mX3_pop) (as := [(2, F (F x0 0) 0)]) (st := [(2, x0)]) (q := 32) (d' := 0) 14 rfl uX3_pop kX11_247 rfl c2 h
  · have hb := Classical.not_not.mp hb
    have b3 := hb
    replace h := h.2 hb
    refine s_aload_n (q := 11) 4 0 rfl rfl ?_
    refine s_bipush (q := 13) 5 rfl ?_
    refine n_callV (N := mX11_refuse) (as := [(0, (-3))]) (st := []) (q := 16) (d' := 0) 6 rfl uX11_refuse kX11_114 rfl c1 ?_
    show PW l G 0 mX11_refuse (0, 0) 0 [(0, (2, x0)), (1, (0, (-3)))] [] (n, K, F, E) _
    refine s_aload_n (q := 1) 0 0 rfl rfl ?_
    refine s_iload_n (q := 2) 1 1 rfl rfl ?_
    refine n_putf (q := 5) (jj := 16) 2 11 16 rfl kX11_97 c1 (Or.inl rfl) ?_
    refine PW.nameF (fun F1 eF1 => ?_)
    replace h := h F1 eF1
    refine s_iload_n (q := 6) 3 1 rfl rfl ?_
    refine s_bipush (q := 8) 4 rfl ?_
    refine s_icmp_lt (q := 11) (tgt := 18) 5 rfl rfl (fun hb => absurd hb (by decide)) (fun _ => ?_)
    refine s_iload_n (q := 12) 6 1 rfl rfl ?_
    refine n_ineg (q := 13) 7 rfl (by decide) ?_
    refine PW.top (b := 3) (by decide) ?_
    refine s_iconst (q := 14) 8 rfl ?_
    refine n_isub (q := 15) 9 rfl (by decide) ?_
    refine PW.top (b := 2) (by decide) ?_
    refine s_goto (tgt := 22) 10 rfl rfl ?_
    refine s_istore_n (q := 23) (lv' := [(2, (0, 2)), (0, (2, x0)), (1, (0, (-3)))]) 15 rfl rfl ?_
    refine s_iload_n (q := 24) 16 0 rfl rfl ?_
    refine s_if_lt (q := 27) (tgt := 42) 17 rfl rfl (fun hb => absurd hb (by decide)) (fun _ => ?_)
    refine s_iload_n (q := 28) 18 0 rfl rfl ?_
    refine s_iconst (q := 29) 19 rfl ?_
    refine s_icmp_ge (q := 32) (tgt := 42) 20 rfl rfl (fun hb => absurd hb (by decide)) (fun _ => ?_)
    refine s_aload_n (q := 33) 21 1 rfl rfl ?_
    refine n_getf (q := 36) (jj := 13) 22 11 13 rfl kX11_87 c1 ?_
    refine PW.top (b := F x0 13) (by exact (congrFun (congrFun eF1 _) _).trans (pUp_k (by decide))) ?_
    refine s_iload_n (q := 37) 23 0 rfl rfl ?_
    refine s_dup2 (q := 38) 24 rfl ?_
    obtain ⟨c5, h⟩ := h
    obtain ⟨c6, h⟩ := h
    refine n_iald (q := 39) 25 rfl c5 c6 ?_
    refine s_iconst (q := 40) 26 rfl ?_
    refine s_iadd (q := 41) 27 rfl ?_
    obtain ⟨c7, h⟩ := h
    refine n_iast (q := 42) 28 rfl c7 c5 c6 ?_
    refine PW.nameE (fun E2 eE2 => ?_)
    replace h := h E2 eE2
    refine s_iload_n (q := 43) 29 2 rfl rfl ?_
    refine s_iret 30 rfl rfl ?_
    show PW l G 1 mX11_undo bg 16 [(0, (2, x0))] [(0, (-3))] (n, K, F1, E2) Q
    exact s_iret 7 rfl rfl h
theorem vX11_undo_32 {l : Launch} {G : pG} {bg : Nat × Nat} {n : Nat} {K : Int → Nat × Nat} {F E : Int → Int → Int} {Q : Option pV → pM → Prop} (s0 s1 : Int) (h : (K s1).1 = 11 ∧ (∀ F1, F1 = pUp F s1 16 0 → Q (some (0, s0)) (n, K, F1, E))) : PW l G 1 mX11_undo bg 32 [] [(0, s0), (2, s1)] (n, K, F, E) Q := by
  obtain ⟨c1, h⟩ := h
  refine n_callV (N := mX11_accept) (as := [(0, s0)]) (st := []) (q := 35) (d' := 0) 15 rfl uX11_accept kX11_157 rfl c1 ?_
  show PW l G 0 mX11_accept (0, 0) 0 [(0, (2, s1)), (1, (0, s0))] [] (n, K, F, E) _
  refine s_aload_n (q := 1) 0 0 rfl rfl ?_
  refine s_iconst (q := 2) 1 rfl ?_
  refine n_putf (q := 5) (jj := 16) 2 11 16 rfl kX11_97 c1 (Or.inl rfl) ?_
  refine PW.nameF (fun F1 eF1 => ?_)
  replace h := h F1 eF1
  refine s_iload_n (q := 6) 3 1 rfl rfl ?_
  refine s_iret 4 rfl rfl ?_
  show PW l G 1 mX11_undo bg 35 [] [(0, s0)] (n, K, F1, E) Q
  exact s_iret 16 rfl rfl h
theorem vX11_result_0 {l : Launch} {G : pG} {bg : Nat × Nat} {n : Nat} {K : Int → Nat × Nat} {F E : Int → Int → Int} {Q : Option pV → pM → Prop} (x0 x1 x2 : Int) (h : ((x1 < 0 → Q (some (0, (-1))) (n, K, F, E)) ∧ (¬ (x1 < 0) → (K x0).1 = 11 ∧ (K (F x0 11)).1 = 2 ∧ ((F (F x0 11) 1 ≤ x1 → Q (some (0, (-1))) (n, K, F, E)) ∧ (¬ (F (F x0 11) 1 ≤ x1) → ((99 ≤ x1 → Q (some (0, (-1))) (n, K, F, E)) ∧ (¬ (99 ≤ x1) → ((0 ≤ x2 ∧ x2 < 3 → (-2147483648 ≤ x1 * 3 ∧ x1 * 3 < 2147483648) ∧ (-2147483648 ≤ (x1 * 3) + x2 ∧ (x1 * 3) + x2 < 2147483648) ∧ (K (F (F x0 11) 0)).1 = 20 ∧ ((0 : Int) ≤ (x1 * 3) + x2 ∧ (x1 * 3) + x2 < ((K (F (F x0 11) 0)).2 : Int)) ∧ ((¬ (E (F (F x0 11) 0) ((x1 * 3) + x2)) = 0 → Q (some (0, E (F (F x0 11) 0) ((x1 * 3) + x2))) (n, K, F, E)) ∧ ((E (F (F x0 11) 0) ((x1 * 3) + x2)) = 0 → Q (some (0, (-1))) (n, K, F, E)))) ∧ (¬ (0 ≤ x2 ∧ x2 < 3) → Q (some (0, (-1))) (n, K, F, E)))))))))) : PW l G 1 mX11_result bg 0 [(0, (2, x0)), (1, (0, x1)), (2, (0, x2))] [] (n, K, F, E) Q := by
  refine s_iload_n (q := 1) 0 1 rfl rfl ?_
  refine s_if_lt (q := 4) (tgt := 28) 1 rfl rfl (fun hb => ?_) (fun hb => ?_)
  · skip
    have b1 := hb
    replace h := h.1 hb
    refine s_iconst (q := 29) 13 rfl ?_
    exact s_iret 14 rfl rfl h
  · skip
    have b1 := hb
    replace h := h.2 hb
    refine s_iload_n (q := 5) 2 1 rfl rfl ?_
    refine s_aload_n (q := 6) 3 0 rfl rfl ?_
    obtain ⟨c2, h⟩ := h
    refine n_getf (q := 9) (jj := 11) 4 11 11 rfl kX11_76 c2 ?_
    obtain ⟨c3, h⟩ := h
    refine n_getf (q := 12) (jj := 1) 5 2 1 rfl kX11_251 c3 ?_
    refine s_icmp_ge (q := 15) (tgt := 28) 6 rfl rfl (fun hb => ?_) (fun hb => ?_)
    · skip
      have b4 := hb
      replace h := h.1 hb
      refine s_iconst (q := 29) 13 rfl ?_
      exact s_iret 14 rfl rfl h
    · skip
      have b4 := hb
      replace h := h.2 hb
      refine s_iload_n (q := 16) 7 1 rfl rfl ?_
      refine s_bipush (q := 18) 8 rfl ?_
      refine s_icmp_ge (q := 21) (tgt := 28) 9 rfl rfl (fun hb => ?_) (fun hb => ?_)
      · skip
        have b5 := hb
        replace h := h.1 hb
        refine s_iconst (q := 29) 13 rfl ?_
        exact s_iret 14 rfl rfl h
      · skip
        have b5 := hb
        replace h := h.2 hb
        refine s_iload_n (q := 22) 10 2 rfl rfl ?_
        refine n_callS (N := mX11_isRelation) (as := [(0, x2)]) (st := []) (q := 25) (d' := 0) 11 rfl uX11_isRelation kX11_107 rfl (pX11_isRelation ?_)
        show PW l G 1 mX11_result bg 25 [(0, (2, x0)), (1, (0, x1)), (2, (0, x2))] [(0, bI (0 ≤ x2 ∧ x2 < 3))] (n, K, F, E) Q
        refine s_if_ne (q := 28) (tgt := 30) 12 rfl rfl (fun hb => ?_) (fun hb => ?_)
        · have hb := bI_t hb
          have b6 := hb
          replace h := h.1 hb
          refine s_aload_n (q := 31) 15 0 rfl rfl ?_
          refine n_getf (q := 34) (jj := 11) 16 11 11 rfl kX11_76 c2 ?_
          refine n_getf (q := 37) (jj := 0) 17 2 0 rfl kX11_254 c3 ?_
          refine s_iload_n (q := 38) 18 1 rfl rfl ?_
          refine s_iconst (q := 39) 19 rfl ?_
          obtain ⟨c7, h⟩ := h
          refine n_imul (q := 40) 20 rfl c7 ?_
          refine s_iload_n (q := 41) 21 2 rfl rfl ?_
          obtain ⟨c8, h⟩ := h
          refine n_iadd (q := 42) 22 rfl c8 ?_
          obtain ⟨c9, h⟩ := h
          obtain ⟨c10, h⟩ := h
          refine n_iald (q := 43) 23 rfl c9 c10 ?_
          refine s_istore_n (q := 44) (lv' := [(3, (0, E (F (F x0 11) 0) ((x1 * 3) + x2))), (0, (2, x0)), (1, (0, x1)), (2, (0, x2))]) 24 rfl rfl ?_
          refine s_iload_n (q := 45) 25 0 rfl rfl ?_
          refine s_if_ne (q := 48) (tgt := 52) 26 rfl rfl (fun hb => ?_) (fun hb => ?_)
          · skip
            have b11 := hb
            replace h := h.1 hb
            refine s_iload_n (q := 53) 29 0 rfl rfl ?_
            exact s_iret 30 rfl rfl h
          · have hb := Classical.not_not.mp hb
            have b11 := hb
            replace h := h.2 hb
            refine s_iconst (q := 49) 27 rfl ?_
            refine s_goto (tgt := 53) 28 rfl rfl ?_
            exact s_iret 30 rfl rfl h
        · have hb := bI_f2 hb
          have b6 := hb
          replace h := h.2 hb
          refine s_iconst (q := 29) 13 rfl ?_
          exact s_iret 14 rfl rfl h
theorem vX11_shut_0 {l : Launch} {G : pG} {bg : Nat × Nat} {n : Nat} {K : Int → Nat × Nat} {F E : Int → Int → Int} {Q : Option pV → pM → Prop} (x0 x1 : Int) (h : ((x1 < 0 → Q (some (0, (-1))) (n, K, F, E)) ∧ (¬ (x1 < 0) → (K x0).1 = 11 ∧ (K (F x0 11)).1 = 2 ∧ ((F (F x0 11) 3 ≤ x1 → Q (some (0, (-1))) (n, K, F, E)) ∧ (¬ (F (F x0 11) 3 ≤ x1) → ((x1 < 99 → (K (F (F x0 11) 2)).1 = 20 ∧ ((0 : Int) ≤ x1 ∧ x1 < ((K (F (F x0 11) 2)).2 : Int)) ∧ Q (some (0, E (F (F x0 11) 2) x1)) (n, K, F, E)) ∧ (¬ (x1 < 99) → Q (some (0, (-1))) (n, K, F, E)))))))) : PW l G 0 mX11_shut bg 0 [(0, (2, x0)), (1, (0, x1))] [] (n, K, F, E) Q := by
  refine s_iload_n (q := 1) 0 1 rfl rfl ?_
  refine s_if_lt (q := 4) (tgt := 21) 1 rfl rfl (fun hb => ?_) (fun hb => ?_)
  · skip
    have b1 := hb
    replace h := h.1 hb
    refine s_iconst (q := 22) 10 rfl ?_
    exact s_iret 11 rfl rfl h
  · skip
    have b1 := hb
    replace h := h.2 hb
    refine s_iload_n (q := 5) 2 1 rfl rfl ?_
    refine s_aload_n (q := 6) 3 0 rfl rfl ?_
    obtain ⟨c2, h⟩ := h
    refine n_getf (q := 9) (jj := 11) 4 11 11 rfl kX11_76 c2 ?_
    obtain ⟨c3, h⟩ := h
    refine n_getf (q := 12) (jj := 3) 5 2 3 rfl kX11_257 c3 ?_
    refine s_icmp_ge (q := 15) (tgt := 21) 6 rfl rfl (fun hb => ?_) (fun hb => ?_)
    · skip
      have b4 := hb
      replace h := h.1 hb
      refine s_iconst (q := 22) 10 rfl ?_
      exact s_iret 11 rfl rfl h
    · skip
      have b4 := hb
      replace h := h.2 hb
      refine s_iload_n (q := 16) 7 1 rfl rfl ?_
      refine s_bipush (q := 18) 8 rfl ?_
      refine s_icmp_lt (q := 21) (tgt := 23) 9 rfl rfl (fun hb => ?_) (fun hb => ?_)
      · skip
        have b5 := hb
        replace h := h.1 hb
        refine s_aload_n (q := 24) 12 0 rfl rfl ?_
        refine n_getf (q := 27) (jj := 11) 13 11 11 rfl kX11_76 c2 ?_
        refine n_getf (q := 30) (jj := 2) 14 2 2 rfl kX11_260 c3 ?_
        refine s_iload_n (q := 31) 15 1 rfl rfl ?_
        obtain ⟨c6, h⟩ := h
        obtain ⟨c7, h⟩ := h
        refine n_iald (q := 32) 16 rfl c6 c7 ?_
        exact s_iret 17 rfl rfl h
      · skip
        have b5 := hb
        replace h := h.2 hb
        refine s_iconst (q := 22) 10 rfl ?_
        exact s_iret 11 rfl rfl h
theorem vX11_deepest_0 {l : Launch} {G : pG} {bg : Nat × Nat} {n : Nat} {K : Int → Nat × Nat} {F E : Int → Int → Int} {Q : Option pV → pM → Prop} (x0 : Int) (h : (K x0).1 = 11 ∧ (K (F x0 11)).1 = 2 ∧ Q (some (0, F (F x0 11) 4)) (n, K, F, E)) : PW l G 0 mX11_deepest bg 0 [(0, (2, x0))] [] (n, K, F, E) Q := by
  refine s_aload_n (q := 1) 0 0 rfl rfl ?_
  obtain ⟨c1, h⟩ := h
  refine n_getf (q := 4) (jj := 11) 1 11 11 rfl kX11_76 c1 ?_
  obtain ⟨c2, h⟩ := h
  refine n_getf (q := 7) (jj := 4) 2 2 4 rfl kX11_263 c2 ?_
  exact s_iret 3 rfl rfl h
theorem vX11_brings_0 {l : Launch} {G : pG} {bg : Nat × Nat} {n : Nat} {K : Int → Nat × Nat} {F E : Int → Int → Int} {Q : Option pV → pM → Prop} (x0 x1 x2 x3 x4 : Int) (h : ((¬ ((0 ≤ x1 ∧ x1 < 3) ∧ (0 ≤ x2 ∧ x2 < 10) ∧ (0 ≤ x3 ∧ x3 < 10)) → Q (some (0, (-1))) (n, K, F, E)) ∧ ((0 ≤ x1 ∧ x1 < 3) ∧ (0 ≤ x2 ∧ x2 < 10) ∧ (0 ≤ x3 ∧ x3 < 10) → ((x4 < 0 → Q (some (0, (-1))) (n, K, F, E)) ∧ (¬ (x4 < 0) → ((x4 ≤ 1 → (K x0).1 = 11 ∧ (K (F x0 0)).1 = 1 ∧ PC l G 0 mX1_lawInForce (0, 0) [(2, F x0 0)] (n, K, F, E) (fun r μ => PW l G 32 mX11_brings bg 37 [(0, (2, x0)), (1, (0, x1)), (2, (0, x2)), (3, (0, x3)), (4, (0, x4))] (r.toList ++ [(2, F (F x0 0) 0), (2, x0)]) μ Q)) ∧ (¬ (x4 ≤ 1) → Q (some (0, (-1))) (n, K, F, E)))))))) : PW l G 32 mX11_brings bg 0 [(0, (2, x0)), (1, (0, x1)), (2, (0, x2)), (3, (0, x3)), (4, (0, x4))] [] (n, K, F, E) Q := by
  refine s_iload_n (q := 1) 0 1 rfl rfl ?_
  refine s_iload_n (q := 2) 1 2 rfl rfl ?_
  refine s_iload_n (q := 3) 2 3 rfl rfl ?_
  refine n_callS (N := mX11_isTuple) (as := [(0, x1), (0, x2), (0, x3)]) (st := []) (q := 6) (d' := 1) 3 rfl uX11_isTuple kX11_266 rfl (pX11_isTuple ?_)
  show PW l G 32 mX11_brings bg 6 [(0, (2, x0)), (1, (0, x1)), (2, (0, x2)), (3, (0, x3)), (4, (0, x4))] [(0, bI ((0 ≤ x1 ∧ x1 < 3) ∧ (0 ≤ x2 ∧ x2 < 10) ∧ (0 ≤ x3 ∧ x3 < 10)))] (n, K, F, E) Q
  refine s_if_eq (q := 9) (tgt := 20) 4 rfl rfl (fun hb => ?_) (fun hb => ?_)
  · have hb := bI_f hb
    have b1 := hb
    replace h := h.1 hb
    refine s_iconst (q := 21) 10 rfl ?_
    exact s_iret 11 rfl rfl h
  · have hb := bI_t hb
    have b1 := hb
    replace h := h.2 hb
    refine s_iload (q := 11) 5 4 rfl rfl ?_
    refine s_if_lt (q := 14) (tgt := 20) 6 rfl rfl (fun hb => ?_) (fun hb => ?_)
    · skip
      have b2 := hb
      replace h := h.1 hb
      refine s_iconst (q := 21) 10 rfl ?_
      exact s_iret 11 rfl rfl h
    · skip
      have b2 := hb
      replace h := h.2 hb
      refine s_iload (q := 16) 7 4 rfl rfl ?_
      refine s_iconst (q := 17) 8 rfl ?_
      refine s_icmp_le (q := 20) (tgt := 22) 9 rfl rfl (fun hb => ?_) (fun hb => ?_)
      · skip
        have b3 := hb
        replace h := h.1 hb
        refine s_aload_n (q := 23) 12 0 rfl rfl ?_
        refine s_aload_n (q := 24) 13 0 rfl rfl ?_
        obtain ⟨c4, h⟩ := h
        refine n_getf (q := 27) (jj := 0) 14 11 0 rfl kX11_10 c4 ?_
        obtain ⟨c5, h⟩ := h
        refine n_getf (q := 30) (jj := 0) 15 1 0 rfl kX11_125 c5 ?_
        refine s_aload_n (q := 31) 16 0 rfl rfl ?_
        refine n_getf (q := 34) (jj := 0) 17 11 0 rfl kX11_10 c4 ?_
        refine PW.pick [0, 1, 2, 3, 4] rfl ?_
        exact n_callV (N := mX1_lawInForce) (as := []) (st := [(2, F (F x0 0) 0), (2, x0)]) (q := 37) (d' := 0) 18 rfl uX1_lawInForce kX11_270 rfl c5 h
      · skip
        have b3 := hb
        replace h := h.2 hb
        refine s_iconst (q := 21) 10 rfl ?_
        exact s_iret 11 rfl rfl h
theorem vX11_brings_37 {l : Launch} {G : pG} {bg : Nat × Nat} {n : Nat} {K : Int → Nat × Nat} {F E : Int → Int → Int} {Q : Option pV → pM → Prop} (x0 x1 x2 x3 x4 s0 s1 s2 : Int) (h : (K s2).1 = 11 ∧ PC l G 31 mX11_costOnPaper (0, 0) [(2, s2), (2, s1), (2, s0), (0, x1), (0, x2), (0, x3)] (n, K, F, E) (fun r μ => PW l G 32 mX11_brings bg 43 [(0, (2, x0)), (4, (0, x4))] (r.toList ++ []) μ Q)) : PW l G 32 mX11_brings bg 37 [(0, (2, x0)), (1, (0, x1)), (2, (0, x2)), (3, (0, x3)), (4, (0, x4))] [(2, s0), (2, s1), (2, s2)] (n, K, F, E) Q := by
  refine s_iload_n (q := 38) 19 1 rfl rfl ?_
  refine s_iload_n (q := 39) 20 2 rfl rfl ?_
  refine s_iload_n (q := 40) 21 3 rfl rfl ?_
  obtain ⟨c1, h⟩ := h
  refine PW.pick [0, 4] rfl ?_
  exact n_callV (N := mX11_costOnPaper) (as := [(2, s1), (2, s0), (0, x1), (0, x2), (0, x3)]) (st := []) (q := 43) (d' := 31) 22 rfl uX11_costOnPaper kX11_274 rfl c1 h
theorem vX11_brings_43 {l : Launch} {G : pG} {bg : Nat × Nat} {n : Nat} {K : Int → Nat × Nat} {F E : Int → Int → Int} {Q : Option pV → pM → Prop} (x0 x4 s0 : Int) (h : ((¬ x4 = 0 → Q (some (0, s0)) (n, K, F, E)) ∧ (x4 = 0 → (K x0).1 = 11 ∧ (K (F x0 10)).1 = 6 ∧ Q (some (0, F (F x0 10) 12)) (n, K, F, E)))) : PW l G 32 mX11_brings bg 43 [(0, (2, x0)), (4, (0, x4))] [(0, s0)] (n, K, F, E) Q := by
  refine s_istore (q := 45) (lv' := [(5, (0, s0)), (0, (2, x0)), (4, (0, x4))]) 23 rfl rfl ?_
  refine s_iload (q := 47) 24 2 rfl rfl ?_
  refine s_if_ne (q := 50) (tgt := 60) 25 rfl rfl (fun hb => ?_) (fun hb => ?_)
  · skip
    have b1 := hb
    replace h := h.1 hb
    refine s_iload (q := 62) 30 0 rfl rfl ?_
    exact s_iret 31 rfl rfl h
  · have hb := Classical.not_not.mp hb
    have b1 := hb
    replace h := h.2 hb
    refine s_aload_n (q := 51) 26 1 rfl rfl ?_
    obtain ⟨c2, h⟩ := h
    refine n_getf (q := 54) (jj := 10) 27 11 10 rfl kX11_69 c2 ?_
    obtain ⟨c3, h⟩ := h
    refine n_getf (q := 57) (jj := 12) 28 6 12 rfl kX11_278 c3 ?_
    refine s_goto (tgt := 62) 29 rfl rfl ?_
    exact s_iret 31 rfl rfl h
theorem vX11_cheapest_0 {l : Launch} {G : pG} {bg : Nat × Nat} {n : Nat} {K : Int → Nat × Nat} {F E : Int → Int → Int} {Q : Option pV → pM → Prop} (x0 x1 x2 x3 x4 : Int) (h : ((¬ ((0 ≤ x1 ∧ x1 < 3) ∧ (0 ≤ x2 ∧ x2 < 10) ∧ (0 ≤ x3 ∧ x3 < 10)) → Q (some (0, (-1))) (n, K, F, E)) ∧ ((0 ≤ x1 ∧ x1 < 3) ∧ (0 ≤ x2 ∧ x2 < 10) ∧ (0 ≤ x3 ∧ x3 < 10) → ((x4 < (-1) → Q (some (0, (-1))) (n, K, F, E)) ∧ (¬ (x4 < (-1)) → (K x0).1 = 11 ∧ (K (F x0 0)).1 = 1 ∧ (K (F (F x0 0) 0)).1 = 0 ∧ (K (F (F (F x0 0) 0) 0)).1 = 20 ∧ ((0 : Int) ≤ 0 ∧ 0 < ((K (F (F (F x0 0) 0) 0)).2 : Int)) ∧ ((x4 < E (F (F (F x0 0) 0) 0) 0 → PC l G 31 mX11_findCheapest (0, 0) [(2, x0), (0, x1), (0, x2), (0, x3)] (n, K, F, E) (fun r μ => PW l G 32 mX11_cheapest bg 39 [(0, (2, x0)), (4, (0, x4))] (r.toList ++ []) μ Q)) ∧ (¬ (x4 < E (F (F (F x0 0) 0) 0) 0) → Q (some (0, (-1))) (n, K, F, E)))))))) : PW l G 32 mX11_cheapest bg 0 [(0, (2, x0)), (1, (0, x1)), (2, (0, x2)), (3, (0, x3)), (4, (0, x4))] [] (n, K, F, E) Q := by
  refine s_iload_n (q := 1) 0 1 rfl rfl ?_
  refine s_iload_n (q := 2) 1 2 rfl rfl ?_
  refine s_iload_n (q := 3) 2 3 rfl rfl ?_
  refine n_callS (N := mX11_isTuple) (as := [(0, x1), (0, x2), (0, x3)]) (st := []) (q := 6) (d' := 1) 3 rfl uX11_isTuple kX11_266 rfl (pX11_isTuple ?_)
  show PW l G 32 mX11_cheapest bg 6 [(0, (2, x0)), (1, (0, x1)), (2, (0, x2)), (3, (0, x3)), (4, (0, x4))] [(0, bI ((0 ≤ x1 ∧ x1 < 3) ∧ (0 ≤ x2 ∧ x2 < 10) ∧ (0 ≤ x3 ∧ x3 < 10)))] (n, K, F, E) Q
  refine s_if_eq (q := 9) (tgt := 30) 4 rfl rfl (fun hb => ?_) (fun hb => ?_)
  · have hb := bI_f hb
    have b1 := hb
    replace h := h.1 hb
    refine s_iconst (q := 31) 14 rfl ?_
    exact s_iret 15 rfl rfl h
  · have hb := bI_t hb
    have b1 := hb
    replace h := h.2 hb
    refine s_iload (q := 11) 5 4 rfl rfl ?_
    refine s_iconst (q := 12) 6 rfl ?_
    refine s_icmp_lt (q := 15) (tgt := 30) 7 rfl rfl (fun hb => ?_) (fun hb => ?_)
    · skip
      have b2 := hb
      replace h := h.1 hb
      refine s_iconst (q := 31) 14 rfl ?_
      exact s_iret 15 rfl rfl h
    · skip
      have b2 := hb
      replace h := h.2 hb
      refine s_iload (q := 17) 8 4 rfl rfl ?_
      refine s_aload_n (q := 18) 9 0 rfl rfl ?_
      obtain ⟨c3, h⟩ := h
      refine n_getf (q := 21) (jj := 0) 10 11 0 rfl kX11_10 c3 ?_
      obtain ⟨c4, h⟩ := h
      refine n_getf (q := 24) (jj := 0) 11 1 0 rfl kX11_125 c4 ?_
      obtain ⟨c5, h⟩ := h
      refine n_callV (N := mX0_operators) (as := []) (st := [(0, x4)]) (q := 27) (d' := 0) 12 rfl uX0_operators kX11_279 rfl c5 ?_
      show PW l G 0 mX0_operators (0, 0) 0 [(0, (2, F (F x0 0) 0))] [] (n, K, F, E) _
      refine s_aload_n (q := 1) 0 0 rfl rfl ?_
      refine n_getf (q := 4) (jj := 0) 1 0 0 rfl kX0_11 c5 ?_
      refine s_iconst (q := 5) 2 rfl ?_
      obtain ⟨c6, h⟩ := h
      obtain ⟨c7, h⟩ := h
      refine n_iald (q := 6) 3 rfl c6 c7 ?_
      refine s_iret 4 rfl rfl ?_
      show PW l G 32 mX11_cheapest bg 27 [(0, (2, x0)), (1, (0, x1)), (2, (0, x2)), (3, (0, x3)), (4, (0, x4))] [(0, E (F (F (F x0 0) 0) 0) 0), (0, x4)] (n, K, F, E) Q
      refine s_icmp_lt (q := 30) (tgt := 32) 13 rfl rfl (fun hb => ?_) (fun hb => ?_)
      · skip
        have b8 := hb
        replace h := h.1 hb
        refine s_aload_n (q := 33) 16 0 rfl rfl ?_
        refine s_iload_n (q := 34) 17 1 rfl rfl ?_
        refine s_iload_n (q := 35) 18 2 rfl rfl ?_
        refine s_iload_n (q := 36) 19 3 rfl rfl ?_
        refine PW.pick [0, 4] rfl ?_
        exact n_callV (N := mX11_findCheapest) (as := [(0, x1), (0, x2), (0, x3)]) (st := []) (q := 39) (d' := 31) 20 rfl uX11_findCheapest kX11_283 rfl c3 h
      · skip
        have b8 := hb
        replace h := h.2 hb
        refine s_iconst (q := 31) 14 rfl ?_
        exact s_iret 15 rfl rfl h
theorem vX11_cheapest_39 {l : Launch} {G : pG} {bg : Nat × Nat} {n : Nat} {K : Int → Nat × Nat} {F E : Int → Int → Int} {Q : Option pV → pM → Prop} (x0 x4 s0 : Int) (h : ((¬ x4 = (-1) → (K x0).1 = 11 ∧ (K (F x0 14)).1 = 20 ∧ ((0 : Int) ≤ x4 ∧ x4 < ((K (F x0 14)).2 : Int)) ∧ Q (some (0, E (F x0 14) x4)) (n, K, F, E)) ∧ (x4 = (-1) → Q (some (0, s0)) (n, K, F, E)))) : PW l G 32 mX11_cheapest bg 39 [(0, (2, x0)), (4, (0, x4))] [(0, s0)] (n, K, F, E) Q := by
  refine s_istore (q := 41) (lv' := [(5, (0, s0)), (0, (2, x0)), (4, (0, x4))]) 21 rfl rfl ?_
  refine s_iload (q := 43) 22 2 rfl rfl ?_
  refine s_iconst (q := 44) 23 rfl ?_
  refine s_icmp_ne (q := 47) (tgt := 52) 24 rfl rfl (fun hb => ?_) (fun hb => ?_)
  · skip
    have b1 := hb
    replace h := h.1 hb
    refine s_aload_n (q := 53) 27 1 rfl rfl ?_
    obtain ⟨c2, h⟩ := h
    refine n_getf (q := 56) (jj := 14) 28 11 14 rfl kX11_91 c2 ?_
    refine s_iload (q := 58) 29 2 rfl rfl ?_
    obtain ⟨c3, h⟩ := h
    obtain ⟨c4, h⟩ := h
    refine n_iald (q := 59) 30 rfl c3 c4 ?_
    exact s_iret 31 rfl rfl h
  · have hb := Classical.not_not.mp hb
    have b1 := hb
    replace h := h.2 hb
    refine s_iload (q := 49) 25 0 rfl rfl ?_
    refine s_goto (tgt := 59) 26 rfl rfl ?_
    exact s_iret 31 rfl rfl h
theorem vX11_regret_0 {l : Launch} {G : pG} {bg : Nat × Nat} {n : Nat} {K : Int → Nat × Nat} {F E : Int → Int → Int} {Q : Option pV → pM → Prop} (x0 x1 x2 x3 : Int) (h : (((0 ≤ x1 ∧ x1 < 3) ∧ (0 ≤ x2 ∧ x2 < 10) ∧ (0 ≤ x3 ∧ x3 < 10) → (K x0).1 = 11 ∧ (K (F x0 0)).1 = 1 ∧ PC l G 0 mX1_lawInForce (0, 0) [(2, F x0 0)] (n, K, F, E) (fun r μ => PW l G 32 mX11_regret bg 26 [(0, (2, x0)), (1, (0, x1)), (2, (0, x2)), (3, (0, x3))] (r.toList ++ [(2, F (F x0 0) 0), (2, x0)]) μ Q)) ∧ (¬ ((0 ≤ x1 ∧ x1 < 3) ∧ (0 ≤ x2 ∧ x2 < 10) ∧ (0 ≤ x3 ∧ x3 < 10)) → Q (some (0, (-1))) (n, K, F, E)))) : PW l G 32 mX11_regret bg 0 [(0, (2, x0)), (1, (0, x1)), (2, (0, x2)), (3, (0, x3))] [] (n, K, F, E) Q := by
  refine s_iload_n (q := 1) 0 1 rfl rfl ?_
  refine s_iload_n (q := 2) 1 2 rfl rfl ?_
  refine s_iload_n (q := 3) 2 3 rfl rfl ?_
  refine n_callS (N := mX11_isTuple) (as := [(0, x1), (0, x2), (0, x3)]) (st := []) (q := 6) (d' := 1) 3 rfl uX11_isTuple kX11_266 rfl (pX11_isTuple ?_)
  show PW l G 32 mX11_regret bg 6 [(0, (2, x0)), (1, (0, x1)), (2, (0, x2)), (3, (0, x3))] [(0, bI ((0 ≤ x1 ∧ x1 < 3) ∧ (0 ≤ x2 ∧ x2 < 10) ∧ (0 ≤ x3 ∧ x3 < 10)))] (n, K, F, E) Q
  refine s_if_ne (q := 9) (tgt := 11) 4 rfl rfl (fun hb => ?_) (fun hb => ?_)
  · have hb := bI_t hb
    have b1 := hb
    replace h := h.1 hb
    refine s_aload_n (q := 12) 7 0 rfl rfl ?_
    refine s_aload_n (q := 13) 8 0 rfl rfl ?_
    obtain ⟨c2, h⟩ := h
    refine n_getf (q := 16) (jj := 0) 9 11 0 rfl kX11_10 c2 ?_
    obtain ⟨c3, h⟩ := h
    refine n_getf (q := 19) (jj := 0) 10 1 0 rfl kX11_125 c3 ?_
    refine s_aload_n (q := 20) 11 0 rfl rfl ?_
    refine n_getf (q := 23) (jj := 0) 12 11 0 rfl kX11_10 c2 ?_
    refine PW.pick [0, 1, 2, 3] rfl ?_
    exact n_callV (N := mX1_lawInForce) (as := []) (st := [(2, F (F x0 0) 0), (2, x0)]) (q := 26) (d' := 0) 13 rfl uX1_lawInForce kX11_270 rfl c3 h
  · have hb := bI_f2 hb
    have b1 := hb
    replace h := h.2 hb
    refine s_iconst (q := 10) 5 rfl ?_
    exact s_iret 6 rfl rfl h
theorem vX11_regret_26 {l : Launch} {G : pG} {bg : Nat × Nat} {n : Nat} {K : Int → Nat × Nat} {F E : Int → Int → Int} {Q : Option pV → pM → Prop} (x0 x1 x2 x3 s0 s1 s2 : Int) (h : (K s2).1 = 11 ∧ PC l G 31 mX11_costOnPaper (0, 0) [(2, s2), (2, s1), (2, s0), (0, x1), (0, x2), (0, x3)] (n, K, F, E) (fun r μ => PW l G 32 mX11_regret bg 32 [(0, (2, x0)), (1, (0, x1)), (2, (0, x2)), (3, (0, x3))] (r.toList ++ []) μ Q)) : PW l G 32 mX11_regret bg 26 [(0, (2, x0)), (1, (0, x1)), (2, (0, x2)), (3, (0, x3))] [(2, s0), (2, s1), (2, s2)] (n, K, F, E) Q := by
  refine s_iload_n (q := 27) 14 1 rfl rfl ?_
  refine s_iload_n (q := 28) 15 2 rfl rfl ?_
  refine s_iload_n (q := 29) 16 3 rfl rfl ?_
  obtain ⟨c1, h⟩ := h
  refine PW.pick [0, 1, 2, 3] rfl ?_
  exact n_callV (N := mX11_costOnPaper) (as := [(2, s1), (2, s0), (0, x1), (0, x2), (0, x3)]) (st := []) (q := 32) (d' := 31) 17 rfl uX11_costOnPaper kX11_274 rfl c1 h
theorem vX11_regret_32 {l : Launch} {G : pG} {bg : Nat × Nat} {n : Nat} {K : Int → Nat × Nat} {F E : Int → Int → Int} {Q : Option pV → pM → Prop} (x0 x1 x2 x3 s0 : Int) (h : (K x0).1 = 11 ∧ PC l G 31 mX11_findCheapest (0, 0) [(2, x0), (0, x1), (0, x2), (0, x3)] (n, K, F, E) (fun r μ => PW l G 32 mX11_regret bg 43 [] (r.toList ++ [(0, s0)]) μ Q)) : PW l G 32 mX11_regret bg 32 [(0, (2, x0)), (1, (0, x1)), (2, (0, x2)), (3, (0, x3))] [(0, s0)] (n, K, F, E) Q := by
  refine s_istore (q := 34) (lv' := [(4, (0, s0)), (0, (2, x0)), (1, (0, x1)), (2, (0, x2)), (3, (0, x3))]) 18 rfl rfl ?_
  refine s_iload (q := 36) 19 0 rfl rfl ?_
  refine s_aload_n (q := 37) 20 1 rfl rfl ?_
  refine s_iload_n (q := 38) 21 2 rfl rfl ?_
  refine s_iload_n (q := 39) 22 3 rfl rfl ?_
  refine s_iload_n (q := 40) 23 4 rfl rfl ?_
  obtain ⟨c1, h⟩ := h
  refine PW.pick [] rfl ?_
  exact n_callV (N := mX11_findCheapest) (as := [(0, x1), (0, x2), (0, x3)]) (st := [(0, s0)]) (q := 43) (d' := 31) 24 rfl uX11_findCheapest kX11_283 rfl c1 h
theorem vX11_regret_43 {l : Launch} {G : pG} {bg : Nat × Nat} {n : Nat} {K : Int → Nat × Nat} {F E : Int → Int → Int} {Q : Option pV → pM → Prop} (s0 s1 : Int) (h : Q (some (0, w32 (s1 - s0))) (n, K, F, E)) : PW l G 32 mX11_regret bg 43 [] [(0, s0), (0, s1)] (n, K, F, E) Q := by
  refine s_isub (q := 44) 25 rfl ?_
  exact s_iret 26 rfl rfl h
theorem vX11_bestIndex_0 {l : Launch} {G : pG} {bg : Nat × Nat} {n : Nat} {K : Int → Nat × Nat} {F E : Int → Int → Int} {Q : Option pV → pM → Prop} (x0 x1 x2 x3 x4 : Int) (h : ((¬ (0 ≤ x1 ∧ x1 < 3) → Q (some (0, (-1))) (n, K, F, E)) ∧ (0 ≤ x1 ∧ x1 < 3 → (((0 ≤ x2 ∧ x2 < 3) ∧ (0 ≤ x3 ∧ x3 < 10) ∧ (0 ≤ x4 ∧ x4 < 10) → (K x0).1 = 11 ∧ (K (F x0 0)).1 = 1 ∧ (K (F x0 5)).1 = 0 ∧ (K (F (F x0 0) 0)).1 = 0 ∧ (0 : Int) ≤ F (F (F x0 0) 0) 0 ∧ (K (F (F (F x0 0) 0) 0)).1 = 20 ∧ (0 : Int) ≤ F (F x0 5) 0 ∧ (K (F (F x0 5) 0)).1 = 20 ∧ ((0 : Int) ≤ 0 ∧ (0 : Int) ≤ 0 ∧ (0 : Int) ≤ 117 ∧ 0 + 117 ≤ ((K (F (F (F x0 0) 0) 0)).2 : Int) ∧ 0 + 117 ≤ ((K (F (F x0 5) 0)).2 : Int)) ∧ (∀ E1, E1 = pRow E (F (F x0 5) 0) (pCpy E (F (F (F x0 0) 0) 0) 0 (F (F x0 5) 0) 0 117) → PW l G 32 mX11_bestIndex bg 44 [(0, (2, x0)), (1, (0, x1)), (2, (0, x2)), (3, (0, x3)), (4, (0, x4)), (5, (0, 0)), (6, (0, 1000000000)), (7, (0, 0))] [] (n, K, F, E1) Q)) ∧ (¬ ((0 ≤ x2 ∧ x2 < 3) ∧ (0 ≤ x3 ∧ x3 < 10) ∧ (0 ≤ x4 ∧ x4 < 10)) → Q (some (0, (-1))) (n, K, F, E)))))) : PW l G 32 mX11_bestIndex bg 0 [(0, (2, x0)), (1, (0, x1)), (2, (0, x2)), (3, (0, x3)), (4, (0, x4))] [] (n, K, F, E) Q := by
  refine s_iload_n (q := 1) 0 1 rfl rfl ?_
  refine n_callS (N := mX11_isRelation) (as := [(0, x1)]) (st := []) (q := 4) (d' := 0) 1 rfl uX11_isRelation kX11_107 rfl (pX11_isRelation ?_)
  show PW l G 32 mX11_bestIndex bg 4 [(0, (2, x0)), (1, (0, x1)), (2, (0, x2)), (3, (0, x3)), (4, (0, x4))] [(0, bI (0 ≤ x1 ∧ x1 < 3))] (n, K, F, E) Q
  refine s_if_eq (q := 7) (tgt := 17) 2 rfl rfl (fun hb => ?_) (fun hb => ?_)
  · have hb := bI_f hb
    have b1 := hb
    replace h := h.1 hb
    refine s_iconst (q := 18) 8 rfl ?_
    exact s_iret 9 rfl rfl h
  · have hb := bI_t hb
    have b1 := hb
    replace h := h.2 hb
    refine s_iload_n (q := 8) 3 2 rfl rfl ?_
    refine s_iload_n (q := 9) 4 3 rfl rfl ?_
    refine s_iload (q := 11) 5 4 rfl rfl ?_
    refine n_callS (N := mX11_isTuple) (as := [(0, x2), (0, x3), (0, x4)]) (st := []) (q := 14) (d' := 1) 6 rfl uX11_isTuple kX11_266 rfl (pX11_isTuple ?_)
    show PW l G 32 mX11_bestIndex bg 14 [(0, (2, x0)), (1, (0, x1)), (2, (0, x2)), (3, (0, x3)), (4, (0, x4))] [(0, bI ((0 ≤ x2 ∧ x2 < 3) ∧ (0 ≤ x3 ∧ x3 < 10) ∧ (0 ≤ x4 ∧ x4 < 10)))] (n, K, F, E) Q
    refine s_if_ne (q := 17) (tgt := 19) 7 rfl rfl (fun hb => ?_) (fun hb => ?_)
    · have hb := bI_t hb
      have b2 := hb
      replace h := h.1 hb
      refine s_aload_n (q := 20) 10 0 rfl rfl ?_
      obtain ⟨c3, h⟩ := h
      refine n_getf (q := 23) (jj := 5) 11 11 5 rfl kX11_37 c3 ?_
      refine s_aload_n (q := 24) 12 0 rfl rfl ?_
      refine n_getf (q := 27) (jj := 0) 13 11 0 rfl kX11_10 c3 ?_
      obtain ⟨c4, h⟩ := h
      refine n_getf (q := 30) (jj := 0) 14 1 0 rfl kX11_125 c4 ?_
      obtain ⟨c5, h⟩ := h
      refine n_callV (N := mX0_copy) (as := [(2, F (F x0 0) 0)]) (st := []) (q := 33) (d' := 0) 15 rfl uX0_copy kX11_202 rfl c5 ?_
      show PW l G 0 mX0_copy (0, 0) 0 [(0, (2, F x0 5)), (1, (2, F (F x0 0) 0))] [] (n, K, F, E) _
      refine s_aload_n (q := 1) 0 1 rfl rfl ?_
      obtain ⟨c6, h⟩ := h
      refine n_getf (q := 4) (jj := 0) 1 0 0 rfl kX0_11 c6 ?_
      refine s_iconst (q := 5) 2 rfl ?_
      refine s_aload_n (q := 6) 3 0 rfl rfl ?_
      refine n_getf (q := 9) (jj := 0) 4 0 0 rfl kX0_11 c5 ?_
      refine s_iconst (q := 10) 5 rfl ?_
      refine s_bipush (q := 12) 6 rfl ?_
      obtain ⟨c7, h⟩ := h
      obtain ⟨c8, h⟩ := h
      obtain ⟨c9, h⟩ := h
      obtain ⟨c10, h⟩ := h
      obtain ⟨c11, h⟩ := h
      refine n_copy (q := 15) 7 rfl kX0_15 c7 c8 c9 c10 c11 ?_
      refine PW.nameE (fun E1 eE1 => ?_)
      replace h := h E1 eE1
      refine s_vret 8 rfl rfl ?_
      show PW l G 32 mX11_bestIndex bg 33 [(0, (2, x0)), (1, (0, x1)), (2, (0, x2)), (3, (0, x3)), (4, (0, x4))] [] (n, K, F, E1) Q
      refine s_iconst (q := 34) 16 rfl ?_
      refine s_istore (q := 36) (lv' := [(5, (0, 0)), (0, (2, x0)), (1, (0, x1)), (2, (0, x2)), (3, (0, x3)), (4, (0, x4))]) 17 rfl rfl ?_
      refine s_ldcw (q := 39) (x := 1000000000) 18 rfl kX11_286 ?_
      refine s_istore (q := 41) (lv' := [(6, (0, 1000000000)), (5, (0, 0)), (0, (2, x0)), (1, (0, x1)), (2, (0, x2)), (3, (0, x3)), (4, (0, x4))]) 19 rfl rfl ?_
      refine s_iconst (q := 42) 20 rfl ?_
      refine s_istore (q := 44) (lv' := [(7, (0, 0)), (6, (0, 1000000000)), (5, (0, 0)), (0, (2, x0)), (1, (0, x1)), (2, (0, x2)), (3, (0, x3)), (4, (0, x4))]) 21 rfl rfl ?_
      refine PW.pick [3, 4, 5, 6, 7, 2, 1, 0] rfl ?_
      exact h
    · have hb := bI_f2 hb
      have b2 := hb
      replace h := h.2 hb
      refine s_iconst (q := 18) 8 rfl ?_
      exact s_iret 9 rfl rfl h
theorem vX11_bestIndex_44 {l : Launch} {G : pG} {bg : Nat × Nat} {n : Nat} {K : Int → Nat × Nat} {F E : Int → Int → Int} {Q : Option pV → pM → Prop} (x0 x1 x2 x3 x4 x5 x6 x7 : Int) (h : ((2 < x7 → Q (some (0, x5)) (n, K, F, E)) ∧ (¬ (2 < x7) → (K x0).1 = 11 ∧ (K (F x0 5)).1 = 0 ∧ (-2147483648 ≤ 6 + x1 ∧ 6 + x1 < 2147483648) ∧ (0 : Int) ≤ F (F x0 5) 0 ∧ (K (F (F x0 5) 0)).1 = 20 ∧ ((0 : Int) ≤ 6 + x1 ∧ 6 + x1 < ((K (F (F x0 5) 0)).2 : Int)) ∧ (∀ E1, E1 = pUp E (F (F x0 5) 0) (6 + x1) x7 → (K (F x0 0)).1 = 1 ∧ PC l G 0 mX1_lawInForce (0, 0) [(2, F x0 0)] (n, K, F, E1) (fun r μ => PW l G 32 mX11_bestIndex bg 72 [(0, (2, x0)), (1, (0, x1)), (2, (0, x2)), (3, (0, x3)), (4, (0, x4)), (5, (0, x5)), (6, (0, x6)), (7, (0, x7))] (r.toList ++ [(2, F x0 5), (2, x0)]) μ Q))))) : PW l G 32 mX11_bestIndex bg 44 [(0, (2, x0)), (1, (0, x1)), (2, (0, x2)), (3, (0, x3)), (4, (0, x4)), (5, (0, x5)), (6, (0, x6)), (7, (0, x7))] [] (n, K, F, E) Q := by
  refine s_iload (q := 46) 22 7 rfl rfl ?_
  refine s_iconst (q := 47) 23 rfl ?_
  refine s_icmp_gt (q := 50) (tgt := 102) 24 rfl rfl (fun hb => ?_) (fun hb => ?_)
  · skip
    have b1 := hb
    replace h := h.1 hb
    refine s_iload (q := 104) 50 5 rfl rfl ?_
    exact s_iret 51 rfl rfl h
  · skip
    have b1 := hb
    replace h := h.2 hb
    refine s_aload_n (q := 51) 25 0 rfl rfl ?_
    obtain ⟨c2, h⟩ := h
    refine n_getf (q := 54) (jj := 5) 26 11 5 rfl kX11_37 c2 ?_
    refine s_iload_n (q := 55) 27 1 rfl rfl ?_
    refine s_iload (q := 57) 28 7 rfl rfl ?_
    obtain ⟨c3, h⟩ := h
    refine n_callV (N := mX0_setIndex) (as := [(0, x1), (0, x7)]) (st := []) (q := 60) (d' := 0) 29 rfl uX0_setIndex kX11_287 rfl c3 ?_
    show PW l G 0 mX0_setIndex (0, 0) 0 [(0, (2, F x0 5)), (1, (0, x1)), (2, (0, x7))] [] (n, K, F, E) _
    refine s_aload_n (q := 1) 0 0 rfl rfl ?_
    refine n_getf (q := 4) (jj := 0) 1 0 0 rfl kX0_11 c3 ?_
    refine s_bipush (q := 6) 2 rfl ?_
    refine s_iload_n (q := 7) 3 1 rfl rfl ?_
    obtain ⟨c4, h⟩ := h
    refine n_iadd (q := 8) 4 rfl c4 ?_
    refine s_iload_n (q := 9) 5 2 rfl rfl ?_
    obtain ⟨c5, h⟩ := h
    obtain ⟨c6, h⟩ := h
    obtain ⟨c7, h⟩ := h
    refine n_iast (q := 10) 6 rfl c5 c6 c7 ?_
    refine PW.nameE (fun E1 eE1 => ?_)
    replace h := h E1 eE1
    refine s_vret 7 rfl rfl ?_
    show PW l G 32 mX11_bestIndex bg 60 [(0, (2, x0)), (1, (0, x1)), (2, (0, x2)), (3, (0, x3)), (4, (0, x4)), (5, (0, x5)), (6, (0, x6)), (7, (0, x7))] [] (n, K, F, E1) Q
    refine s_aload_n (q := 61) 30 0 rfl rfl ?_
    refine s_aload_n (q := 62) 31 0 rfl rfl ?_
    refine n_getf (q := 65) (jj := 5) 32 11 5 rfl kX11_37 c2 ?_
    refine s_aload_n (q := 66) 33 0 rfl rfl ?_
    refine n_getf (q := 69) (jj := 0) 34 11 0 rfl kX11_10 c2 ?_
    obtain ⟨c8, h⟩ := h
    refine PW.pick [0, 1, 2, 3, 4, 5, 6, 7] rfl ?_
    exact n_callV (N := mX1_lawInForce) (as := []) (st := [(2, F x0 5), (2, x0)]) (q := 72) (d' := 0) 35 rfl uX1_lawInForce kX11_270 rfl c8 h
theorem vX11_bestIndex_72 {l : Launch} {G : pG} {bg : Nat × Nat} {n : Nat} {K : Int → Nat × Nat} {F E : Int → Int → Int} {Q : Option pV → pM → Prop} (x0 x1 x2 x3 x4 x5 x6 x7 s0 s1 s2 : Int) (h : (K s2).1 = 11 ∧ PC l G 31 mX11_costOnPaper (0, 0) [(2, s2), (2, s1), (2, s0), (0, x2), (0, x3), (0, x4)] (n, K, F, E) (fun r μ => PW l G 32 mX11_bestIndex bg 79 [(0, (2, x0)), (1, (0, x1)), (2, (0, x2)), (3, (0, x3)), (4, (0, x4)), (5, (0, x5)), (6, (0, x6)), (7, (0, x7))] (r.toList ++ []) μ Q)) : PW l G 32 mX11_bestIndex bg 72 [(0, (2, x0)), (1, (0, x1)), (2, (0, x2)), (3, (0, x3)), (4, (0, x4)), (5, (0, x5)), (6, (0, x6)), (7, (0, x7))] [(2, s0), (2, s1), (2, s2)] (n, K, F, E) Q := by
  refine s_iload_n (q := 73) 36 2 rfl rfl ?_
  refine s_iload_n (q := 74) 37 3 rfl rfl ?_
  refine s_iload (q := 76) 38 4 rfl rfl ?_
  obtain ⟨c1, h⟩ := h
  refine PW.pick [0, 1, 2, 3, 4, 5, 6, 7] rfl ?_
  exact n_callV (N := mX11_costOnPaper) (as := [(2, s1), (2, s0), (0, x2), (0, x3), (0, x4)]) (st := []) (q := 79) (d' := 31) 39 rfl uX11_costOnPaper kX11_274 rfl c1 h
theorem vX11_bestIndex_79 {l : Launch} {G : pG} {bg : Nat × Nat} {n : Nat} {K : Int → Nat × Nat} {F E : Int → Int → Int} {Q : Option pV → pM → Prop} (x0 x1 x2 x3 x4 x5 x6 x7 s0 : Int) (h : ((x6 ≤ s0 → (-2147483648 ≤ x7 + 1 ∧ x7 + 1 < 2147483648) ∧ PW l G 32 mX11_bestIndex bg 44 [(0, (2, x0)), (1, (0, x1)), (2, (0, x2)), (3, (0, x3)), (4, (0, x4)), (5, (0, x5)), (6, (0, x6)), (7, (0, x7 + 1))] [] (n, K, F, E) Q) ∧ (¬ (x6 ≤ s0) → (-2147483648 ≤ x7 + 1 ∧ x7 + 1 < 2147483648) ∧ PW l G 32 mX11_bestIndex bg 44 [(0, (2, x0)), (1, (0, x1)), (2, (0, x2)), (3, (0, x3)), (4, (0, x4)), (5, (0, x7)), (6, (0, s0)), (7, (0, x7 + 1))] [] (n, K, F, E) Q))) : PW l G 32 mX11_bestIndex bg 79 [(0, (2, x0)), (1, (0, x1)), (2, (0, x2)), (3, (0, x3)), (4, (0, x4)), (5, (0, x5)), (6, (0, x6)), (7, (0, x7))] [(0, s0)] (n, K, F, E) Q := by
  refine s_istore (q := 81) (lv' := [(8, (0, s0)), (0, (2, x0)), (1, (0, x1)), (2, (0, x2)), (3, (0, x3)), (4, (0, x4)), (5, (0, x5)), (6, (0, x6)), (7, (0, x7))]) 40 rfl rfl ?_
  refine s_iload (q := 83) 41 0 rfl rfl ?_
  refine s_iload (q := 85) 42 7 rfl rfl ?_
  refine s_icmp_ge (q := 88) (tgt := 96) 43 rfl rfl (fun hb => ?_) (fun hb => ?_)
  · skip
    have b1 := hb
    replace h := h.1 hb
    obtain ⟨c2, h⟩ := h
    refine n_iinc (q := 99) (lv' := [(7, (0, x7 + 1)), (8, (0, s0)), (0, (2, x0)), (1, (0, x1)), (2, (0, x2)), (3, (0, x3)), (4, (0, x4)), (5, (0, x5)), (6, (0, x6))]) 48 8 rfl rfl c2 rfl ?_
    refine s_goto (tgt := 44) 49 rfl rfl ?_
    refine PW.pick [2, 3, 4, 5, 6, 7, 8, 0] rfl ?_
    exact h
  · skip
    have b1 := hb
    replace h := h.2 hb
    refine s_iload (q := 90) 44 0 rfl rfl ?_
    refine s_istore (q := 92) (lv' := [(6, (0, s0)), (8, (0, s0)), (0, (2, x0)), (1, (0, x1)), (2, (0, x2)), (3, (0, x3)), (4, (0, x4)), (5, (0, x5)), (7, (0, x7))]) 45 rfl rfl ?_
    refine s_iload (q := 94) 46 8 rfl rfl ?_
    refine s_istore (q := 96) (lv' := [(5, (0, x7)), (6, (0, s0)), (8, (0, s0)), (0, (2, x0)), (1, (0, x1)), (2, (0, x2)), (3, (0, x3)), (4, (0, x4)), (7, (0, x7))]) 47 rfl rfl ?_
    obtain ⟨c3, h⟩ := h
    refine n_iinc (q := 99) (lv' := [(7, (0, x7 + 1)), (5, (0, x7)), (6, (0, s0)), (8, (0, s0)), (0, (2, x0)), (1, (0, x1)), (2, (0, x2)), (3, (0, x3)), (4, (0, x4))]) 48 8 rfl rfl c3 rfl ?_
    refine s_goto (tgt := 44) 49 rfl rfl ?_
    refine PW.pick [4, 5, 6, 7, 8, 1, 2, 0] rfl ?_
    exact h
theorem vX11_seen_0 {l : Launch} {G : pG} {bg : Nat × Nat} {n : Nat} {K : Int → Nat × Nat} {F E : Int → Int → Int} {Q : Option pV → pM → Prop} (x0 x1 x2 : Int) (h : ((x1 < 0 → (K x0).1 = 11 ∧ (∀ F1, F1 = pUp F x0 16 (-1) → (K (F x0 13)).1 = 20 ∧ ((0 : Int) ≤ 0 ∧ 0 < ((K (F x0 13)).2 : Int)) ∧ (0 : Int) ≤ F x0 13 ∧ (∀ E2, E2 = pUp E (F x0 13) 0 (w32 ((E (F x0 13) 0) + 1)) → Q (some (0, (-1))) (n, K, F1, E2)))) ∧ (¬ (x1 < 0) → ((3 ≤ x1 → (K x0).1 = 11 ∧ (∀ F3, F3 = pUp F x0 16 (-1) → (K (F x0 13)).1 = 20 ∧ ((0 : Int) ≤ 0 ∧ 0 < ((K (F x0 13)).2 : Int)) ∧ (0 : Int) ≤ F x0 13 ∧ (∀ E4, E4 = pUp E (F x0 13) 0 (w32 ((E (F x0 13) 0) + 1)) → Q (some (0, (-1))) (n, K, F3, E4)))) ∧ (¬ (3 ≤ x1) → ((0 ≤ x2 ∧ x2 < 10 → (K x0).1 = 11 ∧ (K (F x0 0)).1 = 1 ∧ ((F (F x0 0) 4 < 6 → (0 : Int) ≤ F (F x0 0) 2 ∧ (K (F (F x0 0) 2)).1 = 20 ∧ ((0 : Int) ≤ F (F x0 0) 4 ∧ F (F x0 0) 4 < ((K (F (F x0 0) 2)).2 : Int)) ∧ (∀ E5, E5 = pUp E (F (F x0 0) 2) (F (F x0 0) 4) x1 → (0 : Int) ≤ F (F x0 0) 3 ∧ (K (F (F x0 0) 3)).1 = 20 ∧ ((0 : Int) ≤ F (F x0 0) 4 ∧ F (F x0 0) 4 < ((K (F (F x0 0) 3)).2 : Int)) ∧ (∀ E6, E6 = pUp E5 (F (F x0 0) 3) (F (F x0 0) 4) x2 → (-2147483648 ≤ (F (F x0 0) 4) + 1 ∧ (F (F x0 0) 4) + 1 < 2147483648) ∧ (∀ F7, F7 = pUp F (F x0 0) 4 ((F (F x0 0) 4) + 1) → (∀ F8, F8 = pUp F7 x0 16 0 → Q (some (0, (F (F x0 0) 4) + 1)) (n, K, F8, E6)))))) ∧ (¬ (F (F x0 0) 4 < 6) → (∀ F9, F9 = pUp F x0 16 (-5) → (K (F x0 13)).1 = 20 ∧ ((0 : Int) ≤ 3 ∧ 3 < ((K (F x0 13)).2 : Int)) ∧ (0 : Int) ≤ F x0 13 ∧ (∀ E10, E10 = pUp E (F x0 13) 3 (w32 ((E (F x0 13) 3) + 1)) → Q (some (0, (-5))) (n, K, F9, E10)))))) ∧ (¬ (0 ≤ x2 ∧ x2 < 10) → (K x0).1 = 11 ∧ (∀ F11, F11 = pUp F x0 16 (-1) → (K (F x0 13)).1 = 20 ∧ ((0 : Int) ≤ 0 ∧ 0 < ((K (F x0 13)).2 : Int)) ∧ (0 : Int) ≤ F x0 13 ∧ (∀ E12, E12 = pUp E (F x0 13) 0 (w32 ((E (F x0 13) 0) + 1)) → Q (some (0, (-1))) (n, K, F11, E12)))))))))) : PW l G 1 mX11_seen bg 0 [(0, (2, x0)), (1, (0, x1)), (2, (0, x2))] [] (n, K, F, E) Q := by
  refine s_iload_n (q := 1) 0 1 rfl rfl ?_
  refine s_if_lt (q := 4) (tgt := 16) 1 rfl rfl (fun hb => ?_) (fun hb => ?_)
  · skip
    have b1 := hb
    replace h := h.1 hb
    refine s_aload_n (q := 17) 8 0 rfl rfl ?_
    refine s_iconst (q := 18) 9 rfl ?_
    obtain ⟨c2, h⟩ := h
    refine n_callV (N := mX11_refuse) (as := [(0, (-1))]) (st := []) (q := 21) (d' := 0) 10 rfl uX11_refuse kX11_114 rfl c2 ?_
    show PW l G 0 mX11_refuse (0, 0) 0 [(0, (2, x0)), (1, (0, (-1)))] [] (n, K, F, E) _
    refine s_aload_n (q := 1) 0 0 rfl rfl ?_
    refine s_iload_n (q := 2) 1 1 rfl rfl ?_
    refine n_putf (q := 5) (jj := 16) 2 11 16 rfl kX11_97 c2 (Or.inl rfl) ?_
    refine PW.nameF (fun F1 eF1 => ?_)
    replace h := h F1 eF1
    refine s_iload_n (q := 6) 3 1 rfl rfl ?_
    refine s_bipush (q := 8) 4 rfl ?_
    refine s_icmp_lt (q := 11) (tgt := 18) 5 rfl rfl (fun hb => absurd hb (by decide)) (fun _ => ?_)
    refine s_iload_n (q := 12) 6 1 rfl rfl ?_
    refine n_ineg (q := 13) 7 rfl (by decide) ?_
    refine PW.top (b := 1) (by decide) ?_
    refine s_iconst (q := 14) 8 rfl ?_
    refine n_isub (q := 15) 9 rfl (by decide) ?_
    refine PW.top (b := 0) (by decide) ?_
    refine s_goto (tgt := 22) 10 rfl rfl ?_
    refine s_istore_n (q := 23) (lv' := [(2, (0, 0)), (0, (2, x0)), (1, (0, (-1)))]) 15 rfl rfl ?_
    refine s_iload_n (q := 24) 16 0 rfl rfl ?_
    refine s_if_lt (q := 27) (tgt := 42) 17 rfl rfl (fun hb => absurd hb (by decide)) (fun _ => ?_)
    refine s_iload_n (q := 28) 18 0 rfl rfl ?_
    refine s_iconst (q := 29) 19 rfl ?_
    refine s_icmp_ge (q := 32) (tgt := 42) 20 rfl rfl (fun hb => absurd hb (by decide)) (fun _ => ?_)
    refine s_aload_n (q := 33) 21 1 rfl rfl ?_
    refine n_getf (q := 36) (jj := 13) 22 11 13 rfl kX11_87 c2 ?_
    refine PW.top (b := F x0 13) (by exact (congrFun (congrFun eF1 _) _).trans (pUp_k (by decide))) ?_
    refine s_iload_n (q := 37) 23 0 rfl rfl ?_
    refine s_dup2 (q := 38) 24 rfl ?_
    obtain ⟨c3, h⟩ := h
    obtain ⟨c4, h⟩ := h
    refine n_iald (q := 39) 25 rfl c3 c4 ?_
    refine s_iconst (q := 40) 26 rfl ?_
    refine s_iadd (q := 41) 27 rfl ?_
    obtain ⟨c5, h⟩ := h
    refine n_iast (q := 42) 28 rfl c5 c3 c4 ?_
    refine PW.nameE (fun E2 eE2 => ?_)
    replace h := h E2 eE2
    refine s_iload_n (q := 43) 29 2 rfl rfl ?_
    refine s_iret 30 rfl rfl ?_
    show PW l G 1 mX11_seen bg 21 [(0, (2, x0)), (1, (0, x1)), (2, (0, x2))] [(0, (-1))] (n, K, F1, E2) Q
    exact s_iret 11 rfl rfl h
  · skip
    have b1 := hb
    replace h := h.2 hb
    refine s_iload_n (q := 5) 2 1 rfl rfl ?_
    refine s_iconst (q := 6) 3 rfl ?_
    refine s_icmp_ge (q := 9) (tgt := 16) 4 rfl rfl (fun hb => ?_) (fun hb => ?_)
    · skip
      have b6 := hb
      replace h := h.1 hb
      refine s_aload_n (q := 17) 8 0 rfl rfl ?_
      refine s_iconst (q := 18) 9 rfl ?_
      obtain ⟨c7, h⟩ := h
      refine n_callV (N := mX11_refuse) (as := [(0, (-1))]) (st := []) (q := 21) (d' := 0) 10 rfl uX11_refuse kX11_114 rfl c7 ?_
      show PW l G 0 mX11_refuse (0, 0) 0 [(0, (2, x0)), (1, (0, (-1)))] [] (n, K, F, E) _
      refine s_aload_n (q := 1) 0 0 rfl rfl ?_
      refine s_iload_n (q := 2) 1 1 rfl rfl ?_
      refine n_putf (q := 5) (jj := 16) 2 11 16 rfl kX11_97 c7 (Or.inl rfl) ?_
      refine PW.nameF (fun F3 eF3 => ?_)
      replace h := h F3 eF3
      refine s_iload_n (q := 6) 3 1 rfl rfl ?_
      refine s_bipush (q := 8) 4 rfl ?_
      refine s_icmp_lt (q := 11) (tgt := 18) 5 rfl rfl (fun hb => absurd hb (by decide)) (fun _ => ?_)
      refine s_iload_n (q := 12) 6 1 rfl rfl ?_
      refine n_ineg (q := 13) 7 rfl (by decide) ?_
      refine PW.top (b := 1) (by decide) ?_
      refine s_iconst (q := 14) 8 rfl ?_
      refine n_isub (q := 15) 9 rfl (by decide) ?_
      refine PW.top (b := 0) (by decide) ?_
      refine s_goto (tgt := 22) 10 rfl rfl ?_
      refine s_istore_n (q := 23) (lv' := [(2, (0, 0)), (0, (2, x0)), (1, (0, (-1)))]) 15 rfl rfl ?_
      refine s_iload_n (q := 24) 16 0 rfl rfl ?_
      refine s_if_lt (q := 27) (tgt := 42) 17 rfl rfl (fun hb => absurd hb (by decide)) (fun _ => ?_)
      refine s_iload_n (q := 28) 18 0 rfl rfl ?_
      refine s_iconst (q := 29) 19 rfl ?_
      refine s_icmp_ge (q := 32) (tgt := 42) 20 rfl rfl (fun hb => absurd hb (by decide)) (fun _ => ?_)
      refine s_aload_n (q := 33) 21 1 rfl rfl ?_
      refine n_getf (q := 36) (jj := 13) 22 11 13 rfl kX11_87 c7 ?_
      refine PW.top (b := F x0 13) (by exact (congrFun (congrFun eF3 _) _).trans (pUp_k (by decide))) ?_
      refine s_iload_n (q := 37) 23 0 rfl rfl ?_
      refine s_dup2 (q := 38) 24 rfl ?_
      obtain ⟨c8, h⟩ := h
      obtain ⟨c9, h⟩ := h
      refine n_iald (q := 39) 25 rfl c8 c9 ?_
      refine s_iconst (q := 40) 26 rfl ?_
      refine s_iadd (q := 41) 27 rfl ?_
      obtain ⟨c10, h⟩ := h
      refine n_iast (q := 42) 28 rfl c10 c8 c9 ?_
      refine PW.nameE (fun E4 eE4 => ?_)
      replace h := h E4 eE4
      refine s_iload_n (q := 43) 29 2 rfl rfl ?_
      refine s_iret 30 rfl rfl ?_
      show PW l G 1 mX11_seen bg 21 [(0, (2, x0)), (1, (0, x1)), (2, (0, x2))] [(0, (-1))] (n, K, F3, E4) Q
      exact s_iret 11 rfl rfl h
    · skip
      have b6 := hb
      replace h := h.2 hb
      refine s_iload_n (q := 10) 5 2 rfl rfl ?_
      refine n_callS (N := mX11_isDigit) (as := [(0, x2)]) (st := []) (q := 13) (d' := 0) 6 rfl uX11_isDigit kX11_122 rfl (pX11_isDigit ?_)
      show PW l G 1 mX11_seen bg 13 [(0, (2, x0)), (1, (0, x1)), (2, (0, x2))] [(0, bI (0 ≤ x2 ∧ x2 < 10))] (n, K, F, E) Q
      refine s_if_ne (q := 16) (tgt := 22) 7 rfl rfl (fun hb => ?_) (fun hb => ?_)
      · have hb := bI_t hb
        have b11 := hb
        replace h := h.1 hb
        refine s_aload_n (q := 23) 12 0 rfl rfl ?_
        obtain ⟨c12, h⟩ := h
        refine n_getf (q := 26) (jj := 0) 13 11 0 rfl kX11_10 c12 ?_
        obtain ⟨c13, h⟩ := h
        refine n_getf (q := 29) (jj := 4) 14 1 4 rfl kX11_291 c13 ?_
        refine s_bipush (q := 31) 15 rfl ?_
        refine s_icmp_lt (q := 34) (tgt := 41) 16 rfl rfl (fun hb => ?_) (fun hb => ?_)
        · skip
          have b14 := hb
          replace h := h.1 hb
          refine s_aload_n (q := 42) 21 0 rfl rfl ?_
          refine n_getf (q := 45) (jj := 0) 22 11 0 rfl kX11_10 c12 ?_
          refine n_getf (q := 48) (jj := 2) 23 1 2 rfl kX11_294 c13 ?_
          refine s_aload_n (q := 49) 24 0 rfl rfl ?_
          refine n_getf (q := 52) (jj := 0) 25 11 0 rfl kX11_10 c12 ?_
          refine n_getf (q := 55) (jj := 4) 26 1 4 rfl kX11_291 c13 ?_
          refine s_iload_n (q := 56) 27 1 rfl rfl ?_
          obtain ⟨c15, h⟩ := h
          obtain ⟨c16, h⟩ := h
          obtain ⟨c17, h⟩ := h
          refine n_iast (q := 57) 28 rfl c15 c16 c17 ?_
          refine PW.nameE (fun E5 eE5 => ?_)
          replace h := h E5 eE5
          refine s_aload_n (q := 58) 29 0 rfl rfl ?_
          refine n_getf (q := 61) (jj := 0) 30 11 0 rfl kX11_10 c12 ?_
          refine n_getf (q := 64) (jj := 3) 31 1 3 rfl kX11_297 c13 ?_
          refine s_aload_n (q := 65) 32 0 rfl rfl ?_
          refine n_getf (q := 68) (jj := 0) 33 11 0 rfl kX11_10 c12 ?_
          refine n_getf (q := 71) (jj := 4) 34 1 4 rfl kX11_291 c13 ?_
          refine s_iload_n (q := 72) 35 2 rfl rfl ?_
          obtain ⟨c18, h⟩ := h
          obtain ⟨c19, h⟩ := h
          obtain ⟨c20, h⟩ := h
          refine n_iast (q := 73) 36 rfl c18 c19 c20 ?_
          refine PW.nameE (fun E6 eE6 => ?_)
          replace h := h E6 eE6
          refine s_aload_n (q := 74) 37 0 rfl rfl ?_
          refine n_getf (q := 77) (jj := 0) 38 11 0 rfl kX11_10 c12 ?_
          refine s_dup (q := 78) 39 rfl ?_
          refine n_getf (q := 81) (jj := 4) 40 1 4 rfl kX11_291 c13 ?_
          refine s_iconst (q := 82) 41 rfl ?_
          obtain ⟨c21, h⟩ := h
          refine n_iadd (q := 83) 42 rfl c21 ?_
          refine n_putf (q := 86) (jj := 4) 43 1 4 rfl kX11_291 c13 (Or.inl rfl) ?_
          refine PW.nameF (fun F7 eF7 => ?_)
          replace h := h F7 eF7
          refine s_aload_n (q := 87) 44 0 rfl rfl ?_
          refine s_aload_n (q := 88) 45 0 rfl rfl ?_
          refine n_getf (q := 91) (jj := 0) 46 11 0 rfl kX11_10 c12 ?_
          refine PW.top (b := F x0 0) (by exact (congrFun (congrFun eF7 _) _).trans (pUp_K c13 c12 (by decide))) ?_
          refine n_getf (q := 94) (jj := 4) 47 1 4 rfl kX11_291 c13 ?_
          refine PW.top (b := (F (F x0 0) 4) + 1) (by exact (congrFun (congrFun eF7 _) _).trans pUp_s) ?_
          refine n_callV (N := mX11_accept) (as := [(0, (F (F x0 0) 4) + 1)]) (st := []) (q := 97) (d' := 0) 48 rfl uX11_accept kX11_157 rfl c12 ?_
          show PW l G 0 mX11_accept (0, 0) 0 [(0, (2, x0)), (1, (0, (F (F x0 0) 4) + 1))] [] (n, K, F7, E6) _
          refine s_aload_n (q := 1) 0 0 rfl rfl ?_
          refine s_iconst (q := 2) 1 rfl ?_
          refine n_putf (q := 5) (jj := 16) 2 11 16 rfl kX11_97 c12 (Or.inl rfl) ?_
          refine PW.nameF (fun F8 eF8 => ?_)
          replace h := h F8 eF8
          refine s_iload_n (q := 6) 3 1 rfl rfl ?_
          refine s_iret 4 rfl rfl ?_
          show PW l G 1 mX11_seen bg 97 [(0, (2, x0)), (1, (0, x1)), (2, (0, x2))] [(0, (F (F x0 0) 4) + 1)] (n, K, F8, E6) Q
          exact s_iret 49 rfl rfl h
        · skip
          have b14 := hb
          replace h := h.2 hb
          refine s_aload_n (q := 35) 17 0 rfl rfl ?_
          refine s_bipush (q := 37) 18 rfl ?_
          refine n_callV (N := mX11_refuse) (as := [(0, (-5))]) (st := []) (q := 40) (d' := 0) 19 rfl uX11_refuse kX11_114 rfl c12 ?_
          show PW l G 0 mX11_refuse (0, 0) 0 [(0, (2, x0)), (1, (0, (-5)))] [] (n, K, F, E) _
          refine s_aload_n (q := 1) 0 0 rfl rfl ?_
          refine s_iload_n (q := 2) 1 1 rfl rfl ?_
          refine n_putf (q := 5) (jj := 16) 2 11 16 rfl kX11_97 c12 (Or.inl rfl) ?_
          refine PW.nameF (fun F9 eF9 => ?_)
          replace h := h F9 eF9
          refine s_iload_n (q := 6) 3 1 rfl rfl ?_
          refine s_bipush (q := 8) 4 rfl ?_
          refine s_icmp_lt (q := 11) (tgt := 18) 5 rfl rfl (fun _ => ?_) (fun hb => absurd (by decide) hb)
          refine s_iload_n (q := 19) 11 1 rfl rfl ?_
          refine n_ineg (q := 20) 12 rfl (by decide) ?_
          refine PW.top (b := 5) (by decide) ?_
          refine s_iconst (q := 21) 13 rfl ?_
          refine n_isub (q := 22) 14 rfl (by decide) ?_
          refine PW.top (b := 3) (by decide) ?_
          refine s_istore_n (q := 23) (lv' := [(2, (0, 3)), (0, (2, x0)), (1, (0, (-5)))]) 15 rfl rfl ?_
          refine s_iload_n (q := 24) 16 0 rfl rfl ?_
          refine s_if_lt (q := 27) (tgt := 42) 17 rfl rfl (fun hb => absurd hb (by decide)) (fun _ => ?_)
          refine s_iload_n (q := 28) 18 0 rfl rfl ?_
          refine s_iconst (q := 29) 19 rfl ?_
          refine s_icmp_ge (q := 32) (tgt := 42) 20 rfl rfl (fun hb => absurd hb (by decide)) (fun _ => ?_)
          refine s_aload_n (q := 33) 21 1 rfl rfl ?_
          refine n_getf (q := 36) (jj := 13) 22 11 13 rfl kX11_87 c12 ?_
          refine PW.top (b := F x0 13) (by exact (congrFun (congrFun eF9 _) _).trans (pUp_k (by decide))) ?_
          refine s_iload_n (q := 37) 23 0 rfl rfl ?_
          refine s_dup2 (q := 38) 24 rfl ?_
          obtain ⟨c22, h⟩ := h
          obtain ⟨c23, h⟩ := h
          refine n_iald (q := 39) 25 rfl c22 c23 ?_
          refine s_iconst (q := 40) 26 rfl ?_
          refine s_iadd (q := 41) 27 rfl ?_
          obtain ⟨c24, h⟩ := h
          refine n_iast (q := 42) 28 rfl c24 c22 c23 ?_
          refine PW.nameE (fun E10 eE10 => ?_)
          replace h := h E10 eE10
          refine s_iload_n (q := 43) 29 2 rfl rfl ?_
          refine s_iret 30 rfl rfl ?_
          show PW l G 1 mX11_seen bg 40 [(0, (2, x0)), (1, (0, x1)), (2, (0, x2))] [(0, (-5))] (n, K, F9, E10) Q
          exact s_iret 20 rfl rfl h
      · have hb := bI_f2 hb
        have b11 := hb
        replace h := h.2 hb
        refine s_aload_n (q := 17) 8 0 rfl rfl ?_
        refine s_iconst (q := 18) 9 rfl ?_
        obtain ⟨c25, h⟩ := h
        refine n_callV (N := mX11_refuse) (as := [(0, (-1))]) (st := []) (q := 21) (d' := 0) 10 rfl uX11_refuse kX11_114 rfl c25 ?_
        show PW l G 0 mX11_refuse (0, 0) 0 [(0, (2, x0)), (1, (0, (-1)))] [] (n, K, F, E) _
        refine s_aload_n (q := 1) 0 0 rfl rfl ?_
        refine s_iload_n (q := 2) 1 1 rfl rfl ?_
        refine n_putf (q := 5) (jj := 16) 2 11 16 rfl kX11_97 c25 (Or.inl rfl) ?_
        refine PW.nameF (fun F11 eF11 => ?_)
        replace h := h F11 eF11
        refine s_iload_n (q := 6) 3 1 rfl rfl ?_
        refine s_bipush (q := 8) 4 rfl ?_
        refine s_icmp_lt (q := 11) (tgt := 18) 5 rfl rfl (fun hb => absurd hb (by decide)) (fun _ => ?_)
        refine s_iload_n (q := 12) 6 1 rfl rfl ?_
        refine n_ineg (q := 13) 7 rfl (by decide) ?_
        refine PW.top (b := 1) (by decide) ?_
        refine s_iconst (q := 14) 8 rfl ?_
        refine n_isub (q := 15) 9 rfl (by decide) ?_
        refine PW.top (b := 0) (by decide) ?_
        refine s_goto (tgt := 22) 10 rfl rfl ?_
        refine s_istore_n (q := 23) (lv' := [(2, (0, 0)), (0, (2, x0)), (1, (0, (-1)))]) 15 rfl rfl ?_
        refine s_iload_n (q := 24) 16 0 rfl rfl ?_
        refine s_if_lt (q := 27) (tgt := 42) 17 rfl rfl (fun hb => absurd hb (by decide)) (fun _ => ?_)
        refine s_iload_n (q := 28) 18 0 rfl rfl ?_
        refine s_iconst (q := 29) 19 rfl ?_
        refine s_icmp_ge (q := 32) (tgt := 42) 20 rfl rfl (fun hb => absurd hb (by decide)) (fun _ => ?_)
        refine s_aload_n (q := 33) 21 1 rfl rfl ?_
        refine n_getf (q := 36) (jj := 13) 22 11 13 rfl kX11_87 c25 ?_
        refine PW.top (b := F x0 13) (by exact (congrFun (congrFun eF11 _) _).trans (pUp_k (by decide))) ?_
        refine s_iload_n (q := 37) 23 0 rfl rfl ?_
        refine s_dup2 (q := 38) 24 rfl ?_
        obtain ⟨c26, h⟩ := h
        obtain ⟨c27, h⟩ := h
        refine n_iald (q := 39) 25 rfl c26 c27 ?_
        refine s_iconst (q := 40) 26 rfl ?_
        refine s_iadd (q := 41) 27 rfl ?_
        obtain ⟨c28, h⟩ := h
        refine n_iast (q := 42) 28 rfl c28 c26 c27 ?_
        refine PW.nameE (fun E12 eE12 => ?_)
        replace h := h E12 eE12
        refine s_iload_n (q := 43) 29 2 rfl rfl ?_
        refine s_iret 30 rfl rfl ?_
        show PW l G 1 mX11_seen bg 21 [(0, (2, x0)), (1, (0, x1)), (2, (0, x2))] [(0, (-1))] (n, K, F11, E12) Q
        exact s_iret 11 rfl rfl h
theorem vX11_forget_0 {l : Launch} {G : pG} {bg : Nat × Nat} {n : Nat} {K : Int → Nat × Nat} {F E : Int → Int → Int} {Q : Option pV → pM → Prop} (x0 : Int) (h : (K x0).1 = 11 ∧ (K (F x0 0)).1 = 1 ∧ (∀ F1, F1 = pUp F (F x0 0) 4 0 → Q (some (0, F (F x0 0) 4)) (n, K, F1, E))) : PW l G 0 mX11_forget bg 0 [(0, (2, x0))] [] (n, K, F, E) Q := by
  refine s_aload_n (q := 1) 0 0 rfl rfl ?_
  obtain ⟨c1, h⟩ := h
  refine n_getf (q := 4) (jj := 0) 1 11 0 rfl kX11_10 c1 ?_
  obtain ⟨c2, h⟩ := h
  refine n_getf (q := 7) (jj := 4) 2 1 4 rfl kX11_291 c2 ?_
  refine s_istore_n (q := 8) (lv' := [(1, (0, F (F x0 0) 4)), (0, (2, x0))]) 3 rfl rfl ?_
  refine s_aload_n (q := 9) 4 1 rfl rfl ?_
  refine n_getf (q := 12) (jj := 0) 5 11 0 rfl kX11_10 c1 ?_
  refine s_iconst (q := 13) 6 rfl ?_
  refine n_putf (q := 16) (jj := 4) 7 1 4 rfl kX11_291 c2 (Or.inl rfl) ?_
  refine PW.nameF (fun F1 eF1 => ?_)
  replace h := h F1 eF1
  refine s_iload_n (q := 17) 8 0 rfl rfl ?_
  exact s_iret 9 rfl rfl h
theorem vX11_canBe_0 {l : Launch} {G : pG} {bg : Nat × Nat} {n : Nat} {K : Int → Nat × Nat} {F E : Int → Int → Int} {Q : Option pV → pM → Prop} (x0 x1 : Int) (h : PW l G 3 mX11_canBe bg 4 [(0, (2, x0)), (1, (0, x1)), (2, (0, 0)), (3, (0, 0))] [] (n, K, F, E) Q) : PW l G 3 mX11_canBe bg 0 [(0, (2, x0)), (1, (0, x1))] [] (n, K, F, E) Q := by
  refine s_iconst (q := 1) 0 rfl ?_
  refine s_istore_n (q := 2) (lv' := [(2, (0, 0)), (0, (2, x0)), (1, (0, x1))]) 1 rfl rfl ?_
  refine s_iconst (q := 3) 2 rfl ?_
  refine s_istore_n (q := 4) (lv' := [(3, (0, 0)), (2, (0, 0)), (0, (2, x0)), (1, (0, x1))]) 3 rfl rfl ?_
  refine PW.pick [2, 3, 1, 0] rfl ?_
  exact h
theorem vX11_canBe_4 {l : Launch} {G : pG} {bg : Nat × Nat} {n : Nat} {K : Int → Nat × Nat} {F E : Int → Int → Int} {Q : Option pV → pM → Prop} (x0 x1 x2 x3 : Int) (h : ((3 ≤ x3 → ((¬ x1 = (-1) → Q (some (0, (-1))) (n, K, F, E)) ∧ (x1 = (-1) → Q (some (0, x2)) (n, K, F, E)))) ∧ (¬ (3 ≤ x3) → PW l G 3 mX11_canBe bg 12 [(0, (2, x0)), (1, (0, x1)), (2, (0, x2)), (3, (0, x3)), (4, (0, 0))] [] (n, K, F, E) Q))) : PW l G 3 mX11_canBe bg 4 [(0, (2, x0)), (1, (0, x1)), (2, (0, x2)), (3, (0, x3))] [] (n, K, F, E) Q := by
  refine s_iload_n (q := 5) 4 3 rfl rfl ?_
  refine s_iconst (q := 6) 5 rfl ?_
  refine s_icmp_ge (q := 9) (tgt := 76) 6 rfl rfl (fun hb => ?_) (fun hb => ?_)
  · skip
    have b1 := hb
    replace h := h.1 hb
    refine s_iload_n (q := 77) 38 1 rfl rfl ?_
    refine s_iconst (q := 78) 39 rfl ?_
    refine s_icmp_ne (q := 81) (tgt := 85) 40 rfl rfl (fun hb => ?_) (fun hb => ?_)
    · skip
      have b2 := hb
      replace h := h.1 hb
      refine s_iconst (q := 86) 43 rfl ?_
      exact s_iret 44 rfl rfl h
    · have hb := Classical.not_not.mp hb
      have b2 := hb
      replace h := h.2 hb
      refine s_iload_n (q := 82) 41 2 rfl rfl ?_
      refine s_goto (tgt := 86) 42 rfl rfl ?_
      exact s_iret 44 rfl rfl h
  · skip
    have b1 := hb
    replace h := h.2 hb
    refine s_iconst (q := 10) 7 rfl ?_
    refine s_istore (q := 12) (lv' := [(4, (0, 0)), (0, (2, x0)), (1, (0, x1)), (2, (0, x2)), (3, (0, x3))]) 8 rfl rfl ?_
    refine PW.pick [1, 2, 3, 4, 0] rfl ?_
    exact h
theorem vX11_canBe_12 {l : Launch} {G : pG} {bg : Nat × Nat} {n : Nat} {K : Int → Nat × Nat} {F E : Int → Int → Int} {Q : Option pV → pM → Prop} (x0 x1 x2 x3 x4 : Int) (h : (K x0).1 = 11 ∧ (K (F x0 0)).1 = 1 ∧ (K (F (F x0 0) 0)).1 = 0 ∧ (-2147483648 ≤ 9 + x3 ∧ 9 + x3 < 2147483648) ∧ (K (F (F (F x0 0) 0) 0)).1 = 20 ∧ ((0 : Int) ≤ 9 + x3 ∧ 9 + x3 < ((K (F (F (F x0 0) 0) 0)).2 : Int)) ∧ ((E (F (F (F x0 0) 0) 0) (9 + x3) ≤ x4 → (-2147483648 ≤ x3 + 1 ∧ x3 + 1 < 2147483648) ∧ PW l G 3 mX11_canBe bg 4 [(0, (2, x0)), (1, (0, x1)), (2, (0, x2)), (3, (0, x3 + 1))] [] (n, K, F, E) Q) ∧ (¬ (E (F (F (F x0 0) 0) 0) (9 + x3) ≤ x4) → PC l G 2 mX1_agrees (0, 0) [(2, F x0 0), (0, x3), (0, x4)] (n, K, F, E) (fun r μ => PW l G 3 mX11_canBe bg 38 [(0, (2, x0)), (1, (0, x1)), (2, (0, x2)), (3, (0, x3)), (4, (0, x4))] (r.toList ++ []) μ Q)))) : PW l G 3 mX11_canBe bg 12 [(0, (2, x0)), (1, (0, x1)), (2, (0, x2)), (3, (0, x3)), (4, (0, x4))] [] (n, K, F, E) Q := by
  refine s_iload (q := 14) 9 4 rfl rfl ?_
  refine s_aload_n (q := 15) 10 0 rfl rfl ?_
  obtain ⟨c1, h⟩ := h
  refine n_getf (q := 18) (jj := 0) 11 11 0 rfl kX11_10 c1 ?_
  obtain ⟨c2, h⟩ := h
  refine n_getf (q := 21) (jj := 0) 12 1 0 rfl kX11_125 c2 ?_
  refine s_iload_n (q := 22) 13 3 rfl rfl ?_
  obtain ⟨c3, h⟩ := h
  refine n_callV (N := mX0_held) (as := [(0, x3)]) (st := [(0, x4)]) (q := 25) (d' := 0) 14 rfl uX0_held kX11_141 rfl c3 ?_
  show PW l G 0 mX0_held (0, 0) 0 [(0, (2, F (F x0 0) 0)), (1, (0, x3))] [] (n, K, F, E) _
  refine s_aload_n (q := 1) 0 0 rfl rfl ?_
  refine n_getf (q := 4) (jj := 0) 1 0 0 rfl kX0_11 c3 ?_
  refine s_bipush (q := 6) 2 rfl ?_
  refine s_iload_n (q := 7) 3 1 rfl rfl ?_
  obtain ⟨c4, h⟩ := h
  refine n_iadd (q := 8) 4 rfl c4 ?_
  obtain ⟨c5, h⟩ := h
  obtain ⟨c6, h⟩ := h
  refine n_iald (q := 9) 5 rfl c5 c6 ?_
  refine s_iret 6 rfl rfl ?_
  show PW l G 3 mX11_canBe bg 25 [(0, (2, x0)), (1, (0, x1)), (2, (0, x2)), (3, (0, x3)), (4, (0, x4))] [(0, E (F (F (F x0 0) 0) 0) (9 + x3)), (0, x4)] (n, K, F, E) Q
  refine s_icmp_ge (q := 28) (tgt := 70) 15 rfl rfl (fun hb => ?_) (fun hb => ?_)
  · skip
    have b7 := hb
    replace h := h.1 hb
    obtain ⟨c8, h⟩ := h
    refine n_iinc (q := 73) (lv' := [(3, (0, x3 + 1)), (0, (2, x0)), (1, (0, x1)), (2, (0, x2)), (4, (0, x4))]) 36 3 rfl rfl c8 rfl ?_
    refine s_goto (tgt := 4) 37 rfl rfl ?_
    refine PW.pick [1, 2, 3, 0] rfl ?_
    exact h
  · skip
    have b7 := hb
    replace h := h.2 hb
    refine s_aload_n (q := 29) 16 0 rfl rfl ?_
    refine n_getf (q := 32) (jj := 0) 17 11 0 rfl kX11_10 c1 ?_
    refine s_iload_n (q := 33) 18 3 rfl rfl ?_
    refine s_iload (q := 35) 19 4 rfl rfl ?_
    refine PW.pick [0, 1, 2, 3, 4] rfl ?_
    exact n_callV (N := mX1_agrees) (as := [(0, x3), (0, x4)]) (st := []) (q := 38) (d' := 2) 20 rfl uX1_agrees kX11_300 rfl c2 h
theorem vX11_canBe_38 {l : Launch} {G : pG} {bg : Nat × Nat} {n : Nat} {K : Int → Nat × Nat} {F E : Int → Int → Int} {Q : Option pV → pM → Prop} (x0 x1 x2 x3 x4 s0 : Int) (h : ((s0 = 0 → (-2147483648 ≤ x4 + 1 ∧ x4 + 1 < 2147483648) ∧ PW l G 3 mX11_canBe bg 12 [(0, (2, x0)), (1, (0, x1)), (2, (0, x2)), (3, (0, x3)), (4, (0, x4 + 1))] [] (n, K, F, E) Q) ∧ (¬ (s0 = 0) → ((¬ x2 = x1 → (-2147483648 ≤ x2 + 1 ∧ x2 + 1 < 2147483648) ∧ (-2147483648 ≤ x4 + 1 ∧ x4 + 1 < 2147483648) ∧ PW l G 3 mX11_canBe bg 12 [(0, (2, x0)), (1, (0, x1)), (2, (0, x2 + 1)), (3, (0, x3)), (4, (0, x4 + 1))] [] (n, K, F, E) Q) ∧ (x2 = x1 → (K x0).1 = 11 ∧ (K (F x0 0)).1 = 1 ∧ (K (F (F x0 0) 0)).1 = 0 ∧ (-2147483648 ≤ x3 * 9 ∧ x3 * 9 < 2147483648) ∧ (-2147483648 ≤ (x3 * 9) + x4 ∧ (x3 * 9) + x4 < 2147483648) ∧ (-2147483648 ≤ ((x3 * 9) + x4) * 3 ∧ ((x3 * 9) + x4) * 3 < 2147483648) ∧ (-2147483648 ≤ 36 + (((x3 * 9) + x4) * 3) ∧ 36 + (((x3 * 9) + x4) * 3) < 2147483648) ∧ (-2147483648 ≤ (36 + (((x3 * 9) + x4) * 3)) + 2 ∧ (36 + (((x3 * 9) + x4) * 3)) + 2 < 2147483648) ∧ (K (F (F (F x0 0) 0) 0)).1 = 20 ∧ ((0 : Int) ≤ (36 + (((x3 * 9) + x4) * 3)) + 2 ∧ (36 + (((x3 * 9) + x4) * 3)) + 2 < ((K (F (F (F x0 0) 0) 0)).2 : Int)) ∧ (∀ a1, a1 = E (F (F (F x0 0) 0) 0) ((36 + (((x3 * 9) + x4) * 3)) + 2) → Q (some (0, a1)) (n, K, F, E))))))) : PW l G 3 mX11_canBe bg 38 [(0, (2, x0)), (1, (0, x1)), (2, (0, x2)), (3, (0, x3)), (4, (0, x4))] [(0, s0)] (n, K, F, E) Q := by
  refine s_if_eq (q := 41) (tgt := 64) 21 rfl rfl (fun hb => ?_) (fun hb => ?_)
  · skip
    have b1 := hb
    replace h := h.1 hb
    obtain ⟨c2, h⟩ := h
    refine n_iinc (q := 67) (lv' := [(4, (0, x4 + 1)), (0, (2, x0)), (1, (0, x1)), (2, (0, x2)), (3, (0, x3))]) 34 4 rfl rfl c2 rfl ?_
    refine s_goto (tgt := 12) 35 rfl rfl ?_
    refine PW.pick [1, 2, 3, 4, 0] rfl ?_
    exact h
  · skip
    have b1 := hb
    replace h := h.2 hb
    refine s_iload_n (q := 42) 22 2 rfl rfl ?_
    refine s_iload_n (q := 43) 23 1 rfl rfl ?_
    refine s_icmp_ne (q := 46) (tgt := 61) 24 rfl rfl (fun hb => ?_) (fun hb => ?_)
    · skip
      have b3 := hb
      replace h := h.1 hb
      obtain ⟨c4, h⟩ := h
      refine n_iinc (q := 64) (lv' := [(2, (0, x2 + 1)), (0, (2, x0)), (1, (0, x1)), (3, (0, x3)), (4, (0, x4))]) 33 2 rfl rfl c4 rfl ?_
      obtain ⟨c5, h⟩ := h
      refine n_iinc (q := 67) (lv' := [(4, (0, x4 + 1)), (2, (0, x2 + 1)), (0, (2, x0)), (1, (0, x1)), (3, (0, x3))]) 34 4 rfl rfl c5 rfl ?_
      refine s_goto (tgt := 12) 35 rfl rfl ?_
      refine PW.pick [2, 3, 1, 4, 0] rfl ?_
      exact h
    · have hb := Classical.not_not.mp hb
      have b3 := hb
      replace h := h.2 hb
      refine s_aload_n (q := 47) 25 0 rfl rfl ?_
      obtain ⟨c6, h⟩ := h
      refine n_getf (q := 50) (jj := 0) 26 11 0 rfl kX11_10 c6 ?_
      obtain ⟨c7, h⟩ := h
      refine n_getf (q := 53) (jj := 0) 27 1 0 rfl kX11_125 c7 ?_
      refine s_iload_n (q := 54) 28 3 rfl rfl ?_
      refine s_iload (q := 56) 29 4 rfl rfl ?_
      refine s_iconst (q := 57) 30 rfl ?_
      obtain ⟨c8, h⟩ := h
      refine n_callV (N := mX0_cell) (as := [(0, x3), (0, x4), (0, 2)]) (st := []) (q := 60) (d' := 0) 31 rfl uX0_cell kX11_144 rfl c8 ?_
      show PW l G 0 mX0_cell (0, 0) 0 [(0, (2, F (F x0 0) 0)), (1, (0, x3)), (2, (0, x4)), (3, (0, 2))] [] (n, K, F, E) _
      refine s_aload_n (q := 1) 0 0 rfl rfl ?_
      refine n_getf (q := 4) (jj := 0) 1 0 0 rfl kX0_11 c8 ?_
      refine s_bipush (q := 6) 2 rfl ?_
      refine s_iload_n (q := 7) 3 1 rfl rfl ?_
      refine s_bipush (q := 9) 4 rfl ?_
      obtain ⟨c9, h⟩ := h
      refine n_imul (q := 10) 5 rfl c9 ?_
      refine s_iload_n (q := 11) 6 2 rfl rfl ?_
      obtain ⟨c10, h⟩ := h
      refine n_iadd (q := 12) 7 rfl c10 ?_
      refine s_iconst (q := 13) 8 rfl ?_
      obtain ⟨c11, h⟩ := h
      refine n_imul (q := 14) 9 rfl c11 ?_
      obtain ⟨c12, h⟩ := h
      refine n_iadd (q := 15) 10 rfl c12 ?_
      refine s_iload_n (q := 16) 11 3 rfl rfl ?_
      obtain ⟨c13, h⟩ := h
      refine n_iadd (q := 17) 12 rfl c13 ?_
      obtain ⟨c14, h⟩ := h
      obtain ⟨c15, h⟩ := h
      refine n_iald (q := 18) 13 rfl c14 c15 ?_
      refine PW.name (fun a1 ea1 => ?_)
      replace h := h a1 ea1
      refine s_iret 14 rfl rfl ?_
      show PW l G 3 mX11_canBe bg 60 [(0, (2, x0)), (1, (0, x1)), (2, (0, x2)), (3, (0, x3)), (4, (0, x4))] [(0, a1)] (n, K, F, E) Q
      exact s_iret 32 rfl rfl h
theorem vX11_ask_0 {l : Launch} {G : pG} {bg : Nat × Nat} {n : Nat} {K : Int → Nat × Nat} {F E : Int → Int → Int} {Q : Option pV → pM → Prop} (x0 x1 : Int) (h : ((x1 < 0 → Q (some (0, (-1))) (n, K, F, E)) ∧ (¬ (x1 < 0) → ((x1 ≤ 1 → PW l G 4 mX11_ask bg 18 [(0, (2, x0)), (1, (0, x1)), (2, (0, (-1))), (3, (0, 0)), (4, (0, 0))] [] (n, K, F, E) Q) ∧ (¬ (x1 ≤ 1) → Q (some (0, (-1))) (n, K, F, E)))))) : PW l G 4 mX11_ask bg 0 [(0, (2, x0)), (1, (0, x1))] [] (n, K, F, E) Q := by
  refine s_iload_n (q := 1) 0 1 rfl rfl ?_
  refine s_if_lt (q := 4) (tgt := 9) 1 rfl rfl (fun hb => ?_) (fun hb => ?_)
  · skip
    have b1 := hb
    replace h := h.1 hb
    refine s_iconst (q := 10) 5 rfl ?_
    exact s_iret 6 rfl rfl h
  · skip
    have b1 := hb
    replace h := h.2 hb
    refine s_iload_n (q := 5) 2 1 rfl rfl ?_
    refine s_iconst (q := 6) 3 rfl ?_
    refine s_icmp_le (q := 9) (tgt := 11) 4 rfl rfl (fun hb => ?_) (fun hb => ?_)
    · skip
      have b2 := hb
      replace h := h.1 hb
      refine s_iconst (q := 12) 7 rfl ?_
      refine s_istore_n (q := 13) (lv' := [(2, (0, (-1))), (0, (2, x0)), (1, (0, x1))]) 8 rfl rfl ?_
      refine s_iconst (q := 14) 9 rfl ?_
      refine s_istore_n (q := 15) (lv' := [(3, (0, 0)), (2, (0, (-1))), (0, (2, x0)), (1, (0, x1))]) 10 rfl rfl ?_
      refine s_iconst (q := 16) 11 rfl ?_
      refine s_istore (q := 18) (lv' := [(4, (0, 0)), (3, (0, 0)), (2, (0, (-1))), (0, (2, x0)), (1, (0, x1))]) 12 rfl rfl ?_
      refine PW.pick [3, 4, 2, 1, 0] rfl ?_
      exact h
    · skip
      have b2 := hb
      replace h := h.2 hb
      refine s_iconst (q := 10) 5 rfl ?_
      exact s_iret 6 rfl rfl h
theorem vX11_ask_18 {l : Launch} {G : pG} {bg : Nat × Nat} {n : Nat} {K : Int → Nat × Nat} {F E : Int → Int → Int} {Q : Option pV → pM → Prop} (x0 x1 x2 x3 x4 : Int) (h : ((3 ≤ x4 → ((x1 = 0 → Q (some (0, x2)) (n, K, F, E)) ∧ (¬ (x1 = 0) → ((¬ x2 = (-1) → Q (some (0, x3)) (n, K, F, E)) ∧ (x2 = (-1) → Q (some (0, x2)) (n, K, F, E)))))) ∧ (¬ (3 ≤ x4) → (K x0).1 = 11 ∧ PC l G 3 mX11_mostAlike (0, 0) [(2, x0), (0, x4)] (n, K, F, E) (fun r μ => PW l G 4 mX11_ask bg 30 [(0, (2, x0)), (1, (0, x1)), (2, (0, x2)), (3, (0, x3)), (4, (0, x4))] (r.toList ++ []) μ Q)))) : PW l G 4 mX11_ask bg 18 [(0, (2, x0)), (1, (0, x1)), (2, (0, x2)), (3, (0, x3)), (4, (0, x4))] [] (n, K, F, E) Q := by
  refine s_iload (q := 20) 13 4 rfl rfl ?_
  refine s_iconst (q := 21) 14 rfl ?_
  refine s_icmp_ge (q := 24) (tgt := 60) 15 rfl rfl (fun hb => ?_) (fun hb => ?_)
  · skip
    have b1 := hb
    replace h := h.1 hb
    refine s_iload_n (q := 61) 34 1 rfl rfl ?_
    refine s_if_eq (q := 64) (tgt := 69) 35 rfl rfl (fun hb => ?_) (fun hb => ?_)
    · skip
      have b2 := hb
      replace h := h.1 hb
      refine s_iload_n (q := 70) 39 2 rfl rfl ?_
      refine s_goto (tgt := 74) 40 rfl rfl ?_
      exact s_iret 42 rfl rfl h
    · skip
      have b2 := hb
      replace h := h.2 hb
      refine s_iload_n (q := 65) 36 2 rfl rfl ?_
      refine s_iconst (q := 66) 37 rfl ?_
      refine s_icmp_ne (q := 69) (tgt := 73) 38 rfl rfl (fun hb => ?_) (fun hb => ?_)
      · skip
        have b3 := hb
        replace h := h.1 hb
        refine s_iload_n (q := 74) 41 3 rfl rfl ?_
        exact s_iret 42 rfl rfl h
      · have hb := Classical.not_not.mp hb
        have b3 := hb
        replace h := h.2 hb
        refine s_iload_n (q := 70) 39 2 rfl rfl ?_
        refine s_goto (tgt := 74) 40 rfl rfl ?_
        exact s_iret 42 rfl rfl h
  · skip
    have b1 := hb
    replace h := h.2 hb
    refine s_aload_n (q := 25) 16 0 rfl rfl ?_
    refine s_iload (q := 27) 17 4 rfl rfl ?_
    obtain ⟨c4, h⟩ := h
    refine PW.pick [0, 1, 2, 3, 4] rfl ?_
    exact n_callV (N := mX11_mostAlike) (as := [(0, x4)]) (st := []) (q := 30) (d' := 3) 18 rfl uX11_mostAlike kX11_304 rfl c4 h
theorem vX11_ask_30 {l : Launch} {G : pG} {bg : Nat × Nat} {n : Nat} {K : Int → Nat × Nat} {F E : Int → Int → Int} {Q : Option pV → pM → Prop} (x0 x1 x2 x3 x4 s0 : Int) (h : ((s0 ≤ 0 → (-2147483648 ≤ x4 + 1 ∧ x4 + 1 < 2147483648) ∧ PW l G 4 mX11_ask bg 18 [(0, (2, x0)), (1, (0, x1)), (2, (0, x2)), (3, (0, x3)), (4, (0, x4 + 1))] [] (n, K, F, E) Q) ∧ (¬ (s0 ≤ 0) → ((x2 = (-1) → (-2147483648 ≤ x4 + 1 ∧ x4 + 1 < 2147483648) ∧ PW l G 4 mX11_ask bg 18 [(0, (2, x0)), (1, (0, x1)), (2, (0, x4)), (3, (0, s0)), (4, (0, x4 + 1))] [] (n, K, F, E) Q) ∧ (¬ (x2 = (-1)) → ((x3 ≤ s0 → (-2147483648 ≤ x4 + 1 ∧ x4 + 1 < 2147483648) ∧ PW l G 4 mX11_ask bg 18 [(0, (2, x0)), (1, (0, x1)), (2, (0, x2)), (3, (0, x3)), (4, (0, x4 + 1))] [] (n, K, F, E) Q) ∧ (¬ (x3 ≤ s0) → (-2147483648 ≤ x4 + 1 ∧ x4 + 1 < 2147483648) ∧ PW l G 4 mX11_ask bg 18 [(0, (2, x0)), (1, (0, x1)), (2, (0, x4)), (3, (0, s0)), (4, (0, x4 + 1))] [] (n, K, F, E) Q))))))) : PW l G 4 mX11_ask bg 30 [(0, (2, x0)), (1, (0, x1)), (2, (0, x2)), (3, (0, x3)), (4, (0, x4))] [(0, s0)] (n, K, F, E) Q := by
  refine s_istore (q := 32) (lv' := [(5, (0, s0)), (0, (2, x0)), (1, (0, x1)), (2, (0, x2)), (3, (0, x3)), (4, (0, x4))]) 19 rfl rfl ?_
  refine s_iload (q := 34) 20 0 rfl rfl ?_
  refine s_if_le (q := 37) (tgt := 54) 21 rfl rfl (fun hb => ?_) (fun hb => ?_)
  · skip
    have b1 := hb
    replace h := h.1 hb
    obtain ⟨c2, h⟩ := h
    refine n_iinc (q := 57) (lv' := [(4, (0, x4 + 1)), (5, (0, s0)), (0, (2, x0)), (1, (0, x1)), (2, (0, x2)), (3, (0, x3))]) 32 5 rfl rfl c2 rfl ?_
    refine s_goto (tgt := 18) 33 rfl rfl ?_
    refine PW.pick [2, 3, 4, 5, 0] rfl ?_
    exact h
  · skip
    have b1 := hb
    replace h := h.2 hb
    refine s_iload_n (q := 38) 22 3 rfl rfl ?_
    refine s_iconst (q := 39) 23 rfl ?_
    refine s_icmp_eq (q := 42) (tgt := 48) 24 rfl rfl (fun hb => ?_) (fun hb => ?_)
    · skip
      have b3 := hb
      replace h := h.1 hb
      refine s_iload (q := 50) 28 5 rfl rfl ?_
      refine s_istore_n (q := 51) (lv' := [(2, (0, x4)), (5, (0, s0)), (0, (2, x0)), (1, (0, x1)), (3, (0, x3)), (4, (0, x4))]) 29 rfl rfl ?_
      refine s_iload (q := 53) 30 1 rfl rfl ?_
      refine s_istore_n (q := 54) (lv' := [(3, (0, s0)), (2, (0, x4)), (5, (0, s0)), (0, (2, x0)), (1, (0, x1)), (4, (0, x4))]) 31 rfl rfl ?_
      obtain ⟨c4, h⟩ := h
      refine n_iinc (q := 57) (lv' := [(4, (0, x4 + 1)), (3, (0, s0)), (2, (0, x4)), (5, (0, s0)), (0, (2, x0)), (1, (0, x1))]) 32 5 rfl rfl c4 rfl ?_
      refine s_goto (tgt := 18) 33 rfl rfl ?_
      refine PW.pick [4, 5, 2, 1, 0] rfl ?_
      exact h
    · skip
      have b3 := hb
      replace h := h.2 hb
      refine s_iload (q := 44) 25 0 rfl rfl ?_
      refine s_iload_n (q := 45) 26 4 rfl rfl ?_
      refine s_icmp_ge (q := 48) (tgt := 54) 27 rfl rfl (fun hb => ?_) (fun hb => ?_)
      · skip
        have b5 := hb
        replace h := h.1 hb
        obtain ⟨c6, h⟩ := h
        refine n_iinc (q := 57) (lv' := [(4, (0, x4 + 1)), (5, (0, s0)), (0, (2, x0)), (1, (0, x1)), (2, (0, x2)), (3, (0, x3))]) 32 5 rfl rfl c6 rfl ?_
        refine s_goto (tgt := 18) 33 rfl rfl ?_
        refine PW.pick [2, 3, 4, 5, 0] rfl ?_
        exact h
      · skip
        have b5 := hb
        replace h := h.2 hb
        refine s_iload (q := 50) 28 5 rfl rfl ?_
        refine s_istore_n (q := 51) (lv' := [(2, (0, x4)), (5, (0, s0)), (0, (2, x0)), (1, (0, x1)), (3, (0, x3)), (4, (0, x4))]) 29 rfl rfl ?_
        refine s_iload (q := 53) 30 1 rfl rfl ?_
        refine s_istore_n (q := 54) (lv' := [(3, (0, s0)), (2, (0, x4)), (5, (0, s0)), (0, (2, x0)), (1, (0, x1)), (4, (0, x4))]) 31 rfl rfl ?_
        obtain ⟨c7, h⟩ := h
        refine n_iinc (q := 57) (lv' := [(4, (0, x4 + 1)), (3, (0, s0)), (2, (0, x4)), (5, (0, s0)), (0, (2, x0)), (1, (0, x1))]) 32 5 rfl rfl c7 rfl ?_
        refine s_goto (tgt := 18) 33 rfl rfl ?_
        refine PW.pick [4, 5, 2, 1, 0] rfl ?_
        exact h
theorem vX11_compare_0 {l : Launch} {G : pG} {bg : Nat × Nat} {n : Nat} {K : Int → Nat × Nat} {F E : Int → Int → Int} {Q : Option pV → pM → Prop} (x0 x1 x2 x3 x4 : Int) (h : ((x1 = (-1) → (((0 ≤ x2 ∧ x2 < 3) ∧ (0 ≤ x3 ∧ x3 < 10) ∧ (0 ≤ x4 ∧ x4 < 10) → (K x0).1 = 11 ∧ (K (F x0 0)).1 = 1 ∧ ((¬ x1 = (-1) → (0 : Int) ≤ F (F x0 0) 5 ∧ (K (F (F x0 0) 5)).1 = 25 ∧ ((0 : Int) ≤ x1 ∧ x1 < ((K (F (F x0 0) 5)).2 : Int)) ∧ PC l G 31 mX11_costOnPaper (0, 0) [(2, x0), (2, F (F x0 0) 0), (2, E (F (F x0 0) 5) x1), (0, x2), (0, x3), (0, x4)] (n, K, F, E) (fun r μ => PW l G 32 mX11_compare bg 58 [] (r.toList ++ []) μ Q)) ∧ (x1 = (-1) → PC l G 31 mX11_costOnPaper (0, 0) [(2, x0), (2, F (F x0 0) 0), (2, (-1)), (0, x2), (0, x3), (0, x4)] (n, K, F, E) (fun r μ => PW l G 32 mX11_compare bg 58 [] (r.toList ++ []) μ Q)))) ∧ (¬ ((0 ≤ x2 ∧ x2 < 3) ∧ (0 ≤ x3 ∧ x3 < 10) ∧ (0 ≤ x4 ∧ x4 < 10)) → Q (some (0, (-1))) (n, K, F, E)))) ∧ (¬ (x1 = (-1)) → (K x0).1 = 11 ∧ (K (F x0 0)).1 = 1 ∧ ((¬ (0 ≤ x1 ∧ x1 < F (F x0 0) 6) → Q (some (0, (-1))) (n, K, F, E)) ∧ (0 ≤ x1 ∧ x1 < F (F x0 0) 6 → (((0 ≤ x2 ∧ x2 < 3) ∧ (0 ≤ x3 ∧ x3 < 10) ∧ (0 ≤ x4 ∧ x4 < 10) → ((¬ x1 = (-1) → (0 : Int) ≤ F (F x0 0) 5 ∧ (K (F (F x0 0) 5)).1 = 25 ∧ ((0 : Int) ≤ x1 ∧ x1 < ((K (F (F x0 0) 5)).2 : Int)) ∧ PC l G 31 mX11_costOnPaper (0, 0) [(2, x0), (2, F (F x0 0) 0), (2, E (F (F x0 0) 5) x1), (0, x2), (0, x3), (0, x4)] (n, K, F, E) (fun r μ => PW l G 32 mX11_compare bg 58 [] (r.toList ++ []) μ Q)) ∧ (x1 = (-1) → PC l G 31 mX11_costOnPaper (0, 0) [(2, x0), (2, F (F x0 0) 0), (2, (-1)), (0, x2), (0, x3), (0, x4)] (n, K, F, E) (fun r μ => PW l G 32 mX11_compare bg 58 [] (r.toList ++ []) μ Q)))) ∧ (¬ ((0 ≤ x2 ∧ x2 < 3) ∧ (0 ≤ x3 ∧ x3 < 10) ∧ (0 ≤ x4 ∧ x4 < 10)) → Q (some (0, (-1))) (n, K, F, E)))))))) : PW l G 32 mX11_compare bg 0 [(0, (2, x0)), (1, (0, x1)), (2, (0, x2)), (3, (0, x3)), (4, (0, x4))] [] (n, K, F, E) Q := by
  refine s_iload_n (q := 1) 0 1 rfl rfl ?_
  refine s_iconst (q := 2) 1 rfl ?_
  refine s_icmp_eq (q := 5) (tgt := 13) 2 rfl rfl (fun hb => ?_) (fun hb => ?_)
  · skip
    have b1 := hb
    replace h := h.1 hb
    refine s_iload_n (q := 14) 7 2 rfl rfl ?_
    refine s_iload_n (q := 15) 8 3 rfl rfl ?_
    refine s_iload (q := 17) 9 4 rfl rfl ?_
    refine n_callS (N := mX11_isTuple) (as := [(0, x2), (0, x3), (0, x4)]) (st := []) (q := 20) (d' := 1) 10 rfl uX11_isTuple kX11_266 rfl (pX11_isTuple ?_)
    show PW l G 32 mX11_compare bg 20 [(0, (2, x0)), (1, (0, x1)), (2, (0, x2)), (3, (0, x3)), (4, (0, x4))] [(0, bI ((0 ≤ x2 ∧ x2 < 3) ∧ (0 ≤ x3 ∧ x3 < 10) ∧ (0 ≤ x4 ∧ x4 < 10)))] (n, K, F, E) Q
    refine s_if_ne (q := 23) (tgt := 25) 11 rfl rfl (fun hb => ?_) (fun hb => ?_)
    · have hb := bI_t hb
      have b2 := hb
      replace h := h.1 hb
      refine s_aload_n (q := 26) 14 0 rfl rfl ?_
      refine s_aload_n (q := 27) 15 0 rfl rfl ?_
      obtain ⟨c3, h⟩ := h
      refine n_getf (q := 30) (jj := 0) 16 11 0 rfl kX11_10 c3 ?_
      obtain ⟨c4, h⟩ := h
      refine n_getf (q := 33) (jj := 0) 17 1 0 rfl kX11_125 c4 ?_
      refine s_iload_n (q := 34) 18 1 rfl rfl ?_
      refine s_iconst (q := 35) 19 rfl ?_
      refine s_icmp_ne (q := 38) (tgt := 42) 20 rfl rfl (fun hb => ?_) (fun hb => ?_)
      · skip
        have b5 := hb
        replace h := h.1 hb
        refine s_aload_n (q := 43) 23 0 rfl rfl ?_
        refine n_getf (q := 46) (jj := 0) 24 11 0 rfl kX11_10 c3 ?_
        refine n_getf (q := 49) (jj := 5) 25 1 5 rfl kX11_186 c4 ?_
        refine s_iload_n (q := 50) 26 1 rfl rfl ?_
        obtain ⟨c6, h⟩ := h
        obtain ⟨c7, h⟩ := h
        obtain ⟨c8, h⟩ := h
        refine n_aald (q := 51) 27 5 rfl c6 c7 c8 ?_
        refine s_iload_n (q := 52) 28 2 rfl rfl ?_
        refine s_iload_n (q := 53) 29 3 rfl rfl ?_
        refine s_iload (q := 55) 30 4 rfl rfl ?_
        refine PW.pick [] rfl ?_
        exact n_callV (N := mX11_costOnPaper) (as := [(2, F (F x0 0) 0), (2, E (F (F x0 0) 5) x1), (0, x2), (0, x3), (0, x4)]) (st := []) (q := 58) (d' := 31) 31 rfl uX11_costOnPaper kX11_274 rfl c3 h
      · have hb := Classical.not_not.mp hb
        have b5 := hb
        replace h := h.2 hb
        refine s_null (q := 39) 21 rfl ?_
        refine s_goto (tgt := 51) 22 rfl rfl ?_
        refine s_iload_n (q := 52) 28 2 rfl rfl ?_
        refine s_iload_n (q := 53) 29 3 rfl rfl ?_
        refine s_iload (q := 55) 30 4 rfl rfl ?_
        refine PW.pick [] rfl ?_
        exact n_callV (N := mX11_costOnPaper) (as := [(2, F (F x0 0) 0), (2, (-1)), (0, x2), (0, x3), (0, x4)]) (st := []) (q := 58) (d' := 31) 31 rfl uX11_costOnPaper kX11_274 rfl c3 h
    · have hb := bI_f2 hb
      have b2 := hb
      replace h := h.2 hb
      refine s_iconst (q := 24) 12 rfl ?_
      exact s_iret 13 rfl rfl h
  · skip
    have b1 := hb
    replace h := h.2 hb
    refine s_aload_n (q := 6) 3 0 rfl rfl ?_
    refine s_iload_n (q := 7) 4 1 rfl rfl ?_
    obtain ⟨c9, h⟩ := h
    obtain ⟨c10, h⟩ := h
    refine n_callV (N := mX11_hasLaw) (as := [(0, x1)]) (st := []) (q := 10) (d' := 0) 5 rfl uX11_hasLaw kX11_222 rfl c9 (pX11_hasLaw c9 c10 ?_)
    show PW l G 32 mX11_compare bg 10 [(0, (2, x0)), (1, (0, x1)), (2, (0, x2)), (3, (0, x3)), (4, (0, x4))] [(0, bI (0 ≤ x1 ∧ x1 < F (F x0 0) 6))] (n, K, F, E) Q
    refine s_if_eq (q := 13) (tgt := 23) 6 rfl rfl (fun hb => ?_) (fun hb => ?_)
    · have hb := bI_f hb
      have b11 := hb
      replace h := h.1 hb
      refine s_iconst (q := 24) 12 rfl ?_
      exact s_iret 13 rfl rfl h
    · have hb := bI_t hb
      have b11 := hb
      replace h := h.2 hb
      refine s_iload_n (q := 14) 7 2 rfl rfl ?_
      refine s_iload_n (q := 15) 8 3 rfl rfl ?_
      refine s_iload (q := 17) 9 4 rfl rfl ?_
      refine n_callS (N := mX11_isTuple) (as := [(0, x2), (0, x3), (0, x4)]) (st := []) (q := 20) (d' := 1) 10 rfl uX11_isTuple kX11_266 rfl (pX11_isTuple ?_)
      show PW l G 32 mX11_compare bg 20 [(0, (2, x0)), (1, (0, x1)), (2, (0, x2)), (3, (0, x3)), (4, (0, x4))] [(0, bI ((0 ≤ x2 ∧ x2 < 3) ∧ (0 ≤ x3 ∧ x3 < 10) ∧ (0 ≤ x4 ∧ x4 < 10)))] (n, K, F, E) Q
      refine s_if_ne (q := 23) (tgt := 25) 11 rfl rfl (fun hb => ?_) (fun hb => ?_)
      · have hb := bI_t hb
        have b12 := hb
        replace h := h.1 hb
        refine s_aload_n (q := 26) 14 0 rfl rfl ?_
        refine s_aload_n (q := 27) 15 0 rfl rfl ?_
        refine n_getf (q := 30) (jj := 0) 16 11 0 rfl kX11_10 c9 ?_
        refine n_getf (q := 33) (jj := 0) 17 1 0 rfl kX11_125 c10 ?_
        refine s_iload_n (q := 34) 18 1 rfl rfl ?_
        refine s_iconst (q := 35) 19 rfl ?_
        refine s_icmp_ne (q := 38) (tgt := 42) 20 rfl rfl (fun hb => ?_) (fun hb => ?_)
        · skip
          have b13 := hb
          replace h := h.1 hb
          refine s_aload_n (q := 43) 23 0 rfl rfl ?_
          refine n_getf (q := 46) (jj := 0) 24 11 0 rfl kX11_10 c9 ?_
          refine n_getf (q := 49) (jj := 5) 25 1 5 rfl kX11_186 c10 ?_
          refine s_iload_n (q := 50) 26 1 rfl rfl ?_
          obtain ⟨c14, h⟩ := h
          obtain ⟨c15, h⟩ := h
          obtain ⟨c16, h⟩ := h
          refine n_aald (q := 51) 27 5 rfl c14 c15 c16 ?_
          refine s_iload_n (q := 52) 28 2 rfl rfl ?_
          refine s_iload_n (q := 53) 29 3 rfl rfl ?_
          refine s_iload (q := 55) 30 4 rfl rfl ?_
          refine PW.pick [] rfl ?_
          exact n_callV (N := mX11_costOnPaper) (as := [(2, F (F x0 0) 0), (2, E (F (F x0 0) 5) x1), (0, x2), (0, x3), (0, x4)]) (st := []) (q := 58) (d' := 31) 31 rfl uX11_costOnPaper kX11_274 rfl c9 h
        · have hb := Classical.not_not.mp hb
          have b13 := hb
          replace h := h.2 hb
          refine s_null (q := 39) 21 rfl ?_
          refine s_goto (tgt := 51) 22 rfl rfl ?_
          refine s_iload_n (q := 52) 28 2 rfl rfl ?_
          refine s_iload_n (q := 53) 29 3 rfl rfl ?_
          refine s_iload (q := 55) 30 4 rfl rfl ?_
          refine PW.pick [] rfl ?_
          exact n_callV (N := mX11_costOnPaper) (as := [(2, F (F x0 0) 0), (2, (-1)), (0, x2), (0, x3), (0, x4)]) (st := []) (q := 58) (d' := 31) 31 rfl uX11_costOnPaper kX11_274 rfl c9 h
      · have hb := bI_f2 hb
        have b12 := hb
        replace h := h.2 hb
        refine s_iconst (q := 24) 12 rfl ?_
        exact s_iret 13 rfl rfl h
theorem vX11_compare_58 {l : Launch} {G : pG} {bg : Nat × Nat} {n : Nat} {K : Int → Nat × Nat} {F E : Int → Int → Int} {Q : Option pV → pM → Prop} (s0 : Int) (h : Q (some (0, s0)) (n, K, F, E)) : PW l G 32 mX11_compare bg 58 [] [(0, s0)] (n, K, F, E) Q := by
  exact s_iret 32 rfl rfl h
