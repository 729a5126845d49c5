theorem vX5_readSingle_0 {l : Launch} {G : pG} {bg : Nat × Nat} {n : Nat} {K : Int → Nat × Nat} {F E : Int → Int → Int} {Q : Option pV → pM → Prop} (x0 : Int) (h : (K x0).1 = 5 ∧ (-2147483648 ≤ (F x0 3) + 1 ∧ (F x0 3) + 1 < 2147483648) ∧ (∀ F1, F1 = pUp F x0 3 ((F x0 3) + 1) → (K (F x0 0)).1 = 10 ∧ (K (F (F x0 0) 1)).1 = 20 ∧ ((0 : Int) ≤ F x0 4 ∧ F x0 4 < ((K (F (F x0 0) 1)).2 : Int)) ∧ ((¬ (E (F (F x0 0) 1) (F x0 4)) = 257 → ((F x0 2 = 0 → ((E (F (F x0 0) 1) (F x0 4) = 272 → (-2147483648 ≤ (F x0 4) + 1 ∧ (F x0 4) + 1 < 2147483648) ∧ (∀ F2, F2 = pUp F1 x0 4 ((F x0 4) + 1) → ((¬ (E (F (F x0 0) 1) (F x0 4)) = 272 → PC l G 0 mX5_numberTo (0, 0) [(2, x0), (0, 3)] (n, K, F2, E) (fun r μ => PW l G 1 mX5_readSingle bg 119 [(0, (2, x0)), (1, (0, E (F (F x0 0) 1) (F x0 4)))] (r.toList ++ []) μ Q)) ∧ ((E (F (F x0 0) 1) (F x0 4)) = 272 → PC l G 0 mX5_numberTo (0, 0) [(2, x0), (0, 2)] (n, K, F2, E) (fun r μ => PW l G 1 mX5_readSingle bg 119 [(0, (2, x0)), (1, (0, E (F (F x0 0) 1) (F x0 4)))] (r.toList ++ []) μ Q))))) ∧ (¬ (E (F (F x0 0) 1) (F x0 4) = 272) → ((¬ (E (F (F x0 0) 1) (F x0 4)) = 259 → ((E (F (F x0 0) 1) (F x0 4) < 267 → Q (some (0, 0)) (n, K, F1, E)) ∧ (¬ (E (F (F x0 0) 1) (F x0 4) < 267) → ((272 ≤ E (F (F x0 0) 1) (F x0 4) → Q (some (0, 0)) (n, K, F1, E)) ∧ (¬ (272 ≤ E (F (F x0 0) 1) (F x0 4)) → (-2147483648 ≤ (E (F (F x0 0) 1) (F x0 4)) - 267 ∧ (E (F (F x0 0) 1) (F x0 4)) - 267 < 2147483648) ∧ ((¬ ((E (F (F x0 0) 1) (F x0 4)) - 267) = (-1) → (-2147483648 ≤ (F x0 4) + 1 ∧ (F x0 4) + 1 < 2147483648) ∧ (∀ F3, F3 = pUp F1 x0 4 ((F x0 4) + 1) → ((¬ (E (F (F x0 0) 1) (F x0 4)) = 257 → (K (F x0 1)).1 = 9 ∧ PC l G 0 mX9_emit (0, 0) [(2, F x0 1), (0, 2), (0, (E (F (F x0 0) 1) (F x0 4)) - 267)] (n, K, F3, E) (fun r μ => PW l G 1 mX5_readSingle bg 205 [] (r.toList ++ []) μ Q)) ∧ ((E (F (F x0 0) 1) (F x0 4)) = 257 → (K (F x0 1)).1 = 9 ∧ PC l G 0 mX9_emit (0, 0) [(2, F x0 1), (0, 1), (0, (E (F (F x0 0) 1) (F x0 4)) - 267)] (n, K, F3, E) (fun r μ => PW l G 1 mX5_readSingle bg 205 [] (r.toList ++ []) μ Q))))) ∧ (((E (F (F x0 0) 1) (F x0 4)) - 267) = (-1) → Q (some (0, 0)) (n, K, F1, E)))))))) ∧ ((E (F (F x0 0) 1) (F x0 4)) = 259 → (-2147483648 ≤ (F x0 4) + 1 ∧ (F x0 4) + 1 < 2147483648) ∧ (∀ F4, F4 = pUp F1 x0 4 ((F x0 4) + 1) → ((¬ (E (F (F x0 0) 1) (F x0 4)) = 272 → PC l G 0 mX5_numberTo (0, 0) [(2, x0), (0, 3)] (n, K, F4, E) (fun r μ => PW l G 1 mX5_readSingle bg 119 [(0, (2, x0)), (1, (0, E (F (F x0 0) 1) (F x0 4)))] (r.toList ++ []) μ Q)) ∧ ((E (F (F x0 0) 1) (F x0 4)) = 272 → PC l G 0 mX5_numberTo (0, 0) [(2, x0), (0, 2)] (n, K, F4, E) (fun r μ => PW l G 1 mX5_readSingle bg 119 [(0, (2, x0)), (1, (0, E (F (F x0 0) 1) (F x0 4)))] (r.toList ++ []) μ Q))))))))) ∧ (¬ (F x0 2 = 0) → ((E (F (F x0 0) 1) (F x0 4) < 259 → Q (some (0, 0)) (n, K, F1, E)) ∧ (¬ (E (F (F x0 0) 1) (F x0 4) < 259) → ((267 < E (F (F x0 0) 1) (F x0 4) → Q (some (0, 0)) (n, K, F1, E)) ∧ (¬ (267 < E (F (F x0 0) 1) (F x0 4)) → (-2147483648 ≤ (E (F (F x0 0) 1) (F x0 4)) - 259 ∧ (E (F (F x0 0) 1) (F x0 4)) - 259 < 2147483648) ∧ ((¬ ((E (F (F x0 0) 1) (F x0 4)) - 259) = (-1) → (-2147483648 ≤ (F x0 4) + 1 ∧ (F x0 4) + 1 < 2147483648) ∧ (∀ F5, F5 = pUp F1 x0 4 ((F x0 4) + 1) → ((¬ (E (F (F x0 0) 1) (F x0 4)) = 257 → (K (F x0 1)).1 = 9 ∧ PC l G 0 mX9_emit (0, 0) [(2, F x0 1), (0, 2), (0, (E (F (F x0 0) 1) (F x0 4)) - 259)] (n, K, F5, E) (fun r μ => PW l G 1 mX5_readSingle bg 205 [] (r.toList ++ []) μ Q)) ∧ ((E (F (F x0 0) 1) (F x0 4)) = 257 → (K (F x0 1)).1 = 9 ∧ PC l G 0 mX9_emit (0, 0) [(2, F x0 1), (0, 1), (0, (E (F (F x0 0) 1) (F x0 4)) - 259)] (n, K, F5, E) (fun r μ => PW l G 1 mX5_readSingle bg 205 [] (r.toList ++ []) μ Q))))) ∧ (((E (F (F x0 0) 1) (F x0 4)) - 259) = (-1) → Q (some (0, 0)) (n, K, F1, E)))))))))) ∧ ((E (F (F x0 0) 1) (F x0 4)) = 257 → PC l G 0 mX5_numberTo (0, 0) [(2, x0), (0, 1000)] (n, K, F1, E) (fun r μ => PW l G 1 mX5_readSingle bg 39 [(0, (2, x0)), (1, (0, E (F (F x0 0) 1) (F x0 4)))] (r.toList ++ []) μ Q))))) : PW l G 1 mX5_readSingle bg 0 [(0, (2, x0))] [] (n, K, F, E) Q := by
  refine s_aload_n (q := 1) 0 0 rfl rfl ?_
  refine s_dup (q := 2) 1 rfl ?_
  obtain ⟨c1, h⟩ := h
  refine n_getf (q := 5) (jj := 3) 2 5 3 rfl kX5_29 c1 ?_
  refine s_iconst (q := 6) 3 rfl ?_
  obtain ⟨c2, h⟩ := h
  refine n_iadd (q := 7) 4 rfl c2 ?_
  refine n_putf (q := 10) (jj := 3) 5 5 3 rfl kX5_29 c1 (Or.inl rfl) ?_
  refine PW.nameF (fun F1 eF1 => ?_)
  replace h := h F1 eF1
  refine s_aload_n (q := 11) 6 0 rfl rfl ?_
  refine n_getf (q := 14) (jj := 0) 7 5 0 rfl kX5_12 c1 ?_
  refine PW.top (b := F x0 0) (by exact (congrFun (congrFun eF1 _) _).trans (pUp_k (by decide))) ?_
  obtain ⟨c3, h⟩ := h
  refine n_getf (q := 17) (jj := 1) 8 10 1 rfl kX5_60 c3 ?_
  refine PW.top (b := F (F x0 0) 1) (by exact (congrFun (congrFun eF1 _) _).trans (pUp_K c1 c3 (by decide))) ?_
  refine s_aload_n (q := 18) 9 0 rfl rfl ?_
  refine n_getf (q := 21) (jj := 4) 10 5 4 rfl kX5_33 c1 ?_
  refine PW.top (b := F x0 4) (by exact (congrFun (congrFun eF1 _) _).trans (pUp_k (by decide))) ?_
  obtain ⟨c4, h⟩ := h
  obtain ⟨c5, h⟩ := h
  refine n_iald (q := 22) 11 rfl c4 c5 ?_
  refine s_istore_n (q := 23) (lv' := [(1, (0, E (F (F x0 0) 1) (F x0 4))), (0, (2, x0))]) 12 rfl rfl ?_
  refine s_iconst (q := 24) 13 rfl ?_
  refine s_istore_n (q := 25) (lv' := [(2, (0, (-1))), (1, (0, E (F (F x0 0) 1) (F x0 4))), (0, (2, x0))]) 14 rfl rfl ?_
  refine s_iload_n (q := 26) 15 1 rfl rfl ?_
  refine s_sipush (q := 29) 16 rfl ?_
  refine s_icmp_ne (q := 32) (tgt := 43) 17 rfl rfl (fun hb => ?_) (fun hb => ?_)
  · skip
    have b6 := hb
    replace h := h.1 hb
    refine s_aload_n (q := 44) 23 2 rfl rfl ?_
    refine n_getf (q := 47) (jj := 2) 24 5 2 rfl kX5_25 c1 ?_
    refine PW.top (b := F x0 2) (by exact (congrFun (congrFun eF1 _) _).trans (pUp_k (by decide))) ?_
    refine s_if_eq (q := 50) (tgt := 77) 25 rfl rfl (fun hb => ?_) (fun hb => ?_)
    · skip
      have b7 := hb
      replace h := h.1 hb
      refine s_iload_n (q := 78) 39 1 rfl rfl ?_
      refine s_sipush (q := 81) 40 rfl ?_
      refine s_icmp_eq (q := 84) (tgt := 91) 41 rfl rfl (fun hb => ?_) (fun hb => ?_)
      · skip
        have b8 := hb
        replace h := h.1 hb
        refine s_aload_n (q := 92) 45 2 rfl rfl ?_
        refine s_dup (q := 93) 46 rfl ?_
        refine n_getf (q := 96) (jj := 4) 47 5 4 rfl kX5_33 c1 ?_
        refine PW.top (b := F x0 4) (by exact (congrFun (congrFun eF1 _) _).trans (pUp_k (by decide))) ?_
        refine s_iconst (q := 97) 48 rfl ?_
        obtain ⟨c9, h⟩ := h
        refine n_iadd (q := 98) 49 rfl c9 ?_
        refine n_putf (q := 101) (jj := 4) 50 5 4 rfl kX5_33 c1 (Or.inl rfl) ?_
        refine PW.nameF (fun F2 eF2 => ?_)
        replace h := h F2 eF2
        refine s_aload_n (q := 102) 51 2 rfl rfl ?_
        refine s_iload_n (q := 103) 52 1 rfl rfl ?_
        refine s_sipush (q := 106) 53 rfl ?_
        refine s_icmp_ne (q := 109) (tgt := 113) 54 rfl rfl (fun hb => ?_) (fun hb => ?_)
        · skip
          have b10 := hb
          replace h := h.1 hb
          refine s_iconst (q := 114) 57 rfl ?_
          refine s_iconst (q := 115) 58 rfl ?_
          refine n_isub (q := 116) 59 rfl (by decide) ?_
          refine PW.top (b := 3) (by decide) ?_
          refine PW.pick [2, 1] rfl ?_
          exact n_callV (N := mX5_numberTo) (as := [(0, 3)]) (st := []) (q := 119) (d' := 0) 60 rfl uX5_numberTo kX5_86 rfl c1 h
        · have hb := Classical.not_not.mp hb
          have b10 := hb
          replace h := h.2 hb
          refine s_iconst (q := 110) 55 rfl ?_
          refine s_goto (tgt := 114) 56 rfl rfl ?_
          refine s_iconst (q := 115) 58 rfl ?_
          refine n_isub (q := 116) 59 rfl (by decide) ?_
          refine PW.top (b := 2) (by decide) ?_
          refine PW.pick [2, 1] rfl ?_
          exact n_callV (N := mX5_numberTo) (as := [(0, 2)]) (st := []) (q := 119) (d' := 0) 60 rfl uX5_numberTo kX5_86 rfl c1 h
      · skip
        have b8 := hb
        replace h := h.2 hb
        refine s_iload_n (q := 85) 42 1 rfl rfl ?_
        refine s_sipush (q := 88) 43 rfl ?_
        refine s_icmp_ne (q := 91) (tgt := 148) 44 rfl rfl (fun hb => ?_) (fun hb => ?_)
        · skip
          have b11 := hb
          replace h := h.1 hb
          refine s_iload_n (q := 149) 77 1 rfl rfl ?_
          refine s_sipush (q := 152) 78 rfl ?_
          refine s_icmp_lt (q := 155) (tgt := 168) 79 rfl rfl (fun hb => ?_) (fun hb => ?_)
          · skip
            have b12 := hb
            replace h := h.1 hb
            refine s_iload_n (q := 169) 87 0 rfl rfl ?_
            refine s_iconst (q := 170) 88 rfl ?_
            refine s_icmp_ne (q := 173) (tgt := 175) 89 rfl rfl (fun hb => absurd hb (by decide)) (fun _ => ?_)
            refine s_iconst (q := 174) 90 rfl ?_
            exact s_zret 91 rfl rfl (by decide) h
          · skip
            have b12 := hb
            replace h := h.2 hb
            refine s_iload_n (q := 156) 80 1 rfl rfl ?_
            refine s_sipush (q := 159) 81 rfl ?_
            refine s_icmp_ge (q := 162) (tgt := 168) 82 rfl rfl (fun hb => ?_) (fun hb => ?_)
            · skip
              have b13 := hb
              replace h := h.1 hb
              refine s_iload_n (q := 169) 87 0 rfl rfl ?_
              refine s_iconst (q := 170) 88 rfl ?_
              refine s_icmp_ne (q := 173) (tgt := 175) 89 rfl rfl (fun hb => absurd hb (by decide)) (fun _ => ?_)
              refine s_iconst (q := 174) 90 rfl ?_
              exact s_zret 91 rfl rfl (by decide) h
            · skip
              have b13 := hb
              replace h := h.2 hb
              refine s_iload_n (q := 163) 83 1 rfl rfl ?_
              refine s_sipush (q := 166) 84 rfl ?_
              obtain ⟨c14, h⟩ := h
              refine n_isub (q := 167) 85 rfl c14 ?_
              refine s_istore_n (q := 168) (lv' := [(2, (0, (E (F (F x0 0) 1) (F x0 4)) - 267)), (1, (0, E (F (F x0 0) 1) (F x0 4))), (0, (2, x0))]) 86 rfl rfl ?_
              refine s_iload_n (q := 169) 87 0 rfl rfl ?_
              refine s_iconst (q := 170) 88 rfl ?_
              refine s_icmp_ne (q := 173) (tgt := 175) 89 rfl rfl (fun hb => ?_) (fun hb => ?_)
              · skip
                have b15 := hb
                replace h := h.1 hb
                refine s_aload_n (q := 176) 92 2 rfl rfl ?_
                refine s_dup (q := 177) 93 rfl ?_
                refine n_getf (q := 180) (jj := 4) 94 5 4 rfl kX5_33 c1 ?_
                refine PW.top (b := F x0 4) (by exact (congrFun (congrFun eF1 _) _).trans (pUp_k (by decide))) ?_
                refine s_iconst (q := 181) 95 rfl ?_
                obtain ⟨c16, h⟩ := h
                refine n_iadd (q := 182) 96 rfl c16 ?_
                refine n_putf (q := 185) (jj := 4) 97 5 4 rfl kX5_33 c1 (Or.inl rfl) ?_
                refine PW.nameF (fun F3 eF3 => ?_)
                replace h := h F3 eF3
                refine s_aload_n (q := 186) 98 2 rfl rfl ?_
                refine n_getf (q := 189) (jj := 1) 99 5 1 rfl kX5_21 c1 ?_
                refine PW.top (b := F x0 1) (by refine (congrFun (congrFun eF3 _) _).trans ((pUp_k (by decide)).trans ?_); exact (congrFun (congrFun eF1 _) _).trans (pUp_k (by decide))) ?_
                refine s_iload_n (q := 190) 100 1 rfl rfl ?_
                refine s_sipush (q := 193) 101 rfl ?_
                refine s_icmp_ne (q := 196) (tgt := 200) 102 rfl rfl (fun hb => ?_) (fun hb => ?_)
                · skip
                  have b17 := hb
                  replace h := h.1 hb
                  refine s_iconst (q := 201) 105 rfl ?_
                  refine s_iload_n (q := 202) 106 0 rfl rfl ?_
                  obtain ⟨c18, h⟩ := h
                  refine PW.pick [] rfl ?_
                  exact n_callV (N := mX9_emit) (as := [(0, 2), (0, (E (F (F x0 0) 1) (F x0 4)) - 267)]) (st := []) (q := 205) (d' := 0) 107 rfl uX9_emit kX5_82 rfl c18 h
                · have hb := Classical.not_not.mp hb
                  have b17 := hb
                  replace h := h.2 hb
                  refine s_iconst (q := 197) 103 rfl ?_
                  refine s_goto (tgt := 201) 104 rfl rfl ?_
                  refine s_iload_n (q := 202) 106 0 rfl rfl ?_
                  obtain ⟨c19, h⟩ := h
                  refine PW.pick [] rfl ?_
                  exact n_callV (N := mX9_emit) (as := [(0, 1), (0, (E (F (F x0 0) 1) (F x0 4)) - 267)]) (st := []) (q := 205) (d' := 0) 107 rfl uX9_emit kX5_82 rfl c19 h
              · have hb := Classical.not_not.mp hb
                have b15 := hb
                replace h := h.2 hb
                refine s_iconst (q := 174) 90 rfl ?_
                exact s_zret 91 rfl rfl (by decide) h
        · have hb := Classical.not_not.mp hb
          have b11 := hb
          replace h := h.2 hb
          refine s_aload_n (q := 92) 45 2 rfl rfl ?_
          refine s_dup (q := 93) 46 rfl ?_
          refine n_getf (q := 96) (jj := 4) 47 5 4 rfl kX5_33 c1 ?_
          refine PW.top (b := F x0 4) (by exact (congrFun (congrFun eF1 _) _).trans (pUp_k (by decide))) ?_
          refine s_iconst (q := 97) 48 rfl ?_
          obtain ⟨c20, h⟩ := h
          refine n_iadd (q := 98) 49 rfl c20 ?_
          refine n_putf (q := 101) (jj := 4) 50 5 4 rfl kX5_33 c1 (Or.inl rfl) ?_
          refine PW.nameF (fun F4 eF4 => ?_)
          replace h := h F4 eF4
          refine s_aload_n (q := 102) 51 2 rfl rfl ?_
          refine s_iload_n (q := 103) 52 1 rfl rfl ?_
          refine s_sipush (q := 106) 53 rfl ?_
          refine s_icmp_ne (q := 109) (tgt := 113) 54 rfl rfl (fun hb => ?_) (fun hb => ?_)
          · skip
            have b21 := hb
            replace h := h.1 hb
            refine s_iconst (q := 114) 57 rfl ?_
            refine s_iconst (q := 115) 58 rfl ?_
            refine n_isub (q := 116) 59 rfl (by decide) ?_
            refine PW.top (b := 3) (by decide) ?_
            refine PW.pick [2, 1] rfl ?_
            exact n_callV (N := mX5_numberTo) (as := [(0, 3)]) (st := []) (q := 119) (d' := 0) 60 rfl uX5_numberTo kX5_86 rfl c1 h
          · have hb := Classical.not_not.mp hb
            have b21 := hb
            replace h := h.2 hb
            refine s_iconst (q := 110) 55 rfl ?_
            refine s_goto (tgt := 114) 56 rfl rfl ?_
            refine s_iconst (q := 115) 58 rfl ?_
            refine n_isub (q := 116) 59 rfl (by decide) ?_
            refine PW.top (b := 2) (by decide) ?_
            refine PW.pick [2, 1] rfl ?_
            exact n_callV (N := mX5_numberTo) (as := [(0, 2)]) (st := []) (q := 119) (d' := 0) 60 rfl uX5_numberTo kX5_86 rfl c1 h
    · skip
      have b7 := hb
      replace h := h.2 hb
      refine s_iload_n (q := 51) 26 1 rfl rfl ?_
      refine s_sipush (q := 54) 27 rfl ?_
      refine s_icmp_lt (q := 57) (tgt := 72) 28 rfl rfl (fun hb => ?_) (fun hb => ?_)
      · skip
        have b22 := hb
        replace h := h.1 hb
        refine s_iconst (q := 73) 36 rfl ?_
        refine s_istore_n (q := 74) (lv' := [(2, (0, (-1))), (1, (0, E (F (F x0 0) 1) (F x0 4))), (0, (2, x0))]) 37 rfl rfl ?_
        refine s_goto (tgt := 168) 38 rfl rfl ?_
        refine s_iload_n (q := 169) 87 0 rfl rfl ?_
        refine s_iconst (q := 170) 88 rfl ?_
        refine s_icmp_ne (q := 173) (tgt := 175) 89 rfl rfl (fun hb => absurd hb (by decide)) (fun _ => ?_)
        refine s_iconst (q := 174) 90 rfl ?_
        exact s_zret 91 rfl rfl (by decide) h
      · skip
        have b22 := hb
        replace h := h.2 hb
        refine s_iload_n (q := 58) 29 1 rfl rfl ?_
        refine s_sipush (q := 61) 30 rfl ?_
        refine s_icmp_gt (q := 64) (tgt := 72) 31 rfl rfl (fun hb => ?_) (fun hb => ?_)
        · skip
          have b23 := hb
          replace h := h.1 hb
          refine s_iconst (q := 73) 36 rfl ?_
          refine s_istore_n (q := 74) (lv' := [(2, (0, (-1))), (1, (0, E (F (F x0 0) 1) (F x0 4))), (0, (2, x0))]) 37 rfl rfl ?_
          refine s_goto (tgt := 168) 38 rfl rfl ?_
          refine s_iload_n (q := 169) 87 0 rfl rfl ?_
          refine s_iconst (q := 170) 88 rfl ?_
          refine s_icmp_ne (q := 173) (tgt := 175) 89 rfl rfl (fun hb => absurd hb (by decide)) (fun _ => ?_)
          refine s_iconst (q := 174) 90 rfl ?_
          exact s_zret 91 rfl rfl (by decide) h
        · skip
          have b23 := hb
          replace h := h.2 hb
          refine s_iload_n (q := 65) 32 1 rfl rfl ?_
          refine s_sipush (q := 68) 33 rfl ?_
          obtain ⟨c24, h⟩ := h
          refine n_isub (q := 69) 34 rfl c24 ?_
          refine s_goto (tgt := 73) 35 rfl rfl ?_
          refine s_istore_n (q := 74) (lv' := [(2, (0, (E (F (F x0 0) 1) (F x0 4)) - 259)), (1, (0, E (F (F x0 0) 1) (F x0 4))), (0, (2, x0))]) 37 rfl rfl ?_
          refine s_goto (tgt := 168) 38 rfl rfl ?_
          refine s_iload_n (q := 169) 87 0 rfl rfl ?_
          refine s_iconst (q := 170) 88 rfl ?_
          refine s_icmp_ne (q := 173) (tgt := 175) 89 rfl rfl (fun hb => ?_) (fun hb => ?_)
          · skip
            have b25 := hb
            replace h := h.1 hb
            refine s_aload_n (q := 176) 92 2 rfl rfl ?_
            refine s_dup (q := 177) 93 rfl ?_
            refine n_getf (q := 180) (jj := 4) 94 5 4 rfl kX5_33 c1 ?_
            refine PW.top (b := F x0 4) (by exact (congrFun (congrFun eF1 _) _).trans (pUp_k (by decide))) ?_
            refine s_iconst (q := 181) 95 rfl ?_
            obtain ⟨c26, h⟩ := h
            refine n_iadd (q := 182) 96 rfl c26 ?_
            refine n_putf (q := 185) (jj := 4) 97 5 4 rfl kX5_33 c1 (Or.inl rfl) ?_
            refine PW.nameF (fun F5 eF5 => ?_)
            replace h := h F5 eF5
            refine s_aload_n (q := 186) 98 2 rfl rfl ?_
            refine n_getf (q := 189) (jj := 1) 99 5 1 rfl kX5_21 c1 ?_
            refine PW.top (b := F x0 1) (by refine (congrFun (congrFun eF5 _) _).trans ((pUp_k (by decide)).trans ?_); exact (congrFun (congrFun eF1 _) _).trans (pUp_k (by decide))) ?_
            refine s_iload_n (q := 190) 100 1 rfl rfl ?_
            refine s_sipush (q := 193) 101 rfl ?_
            refine s_icmp_ne (q := 196) (tgt := 200) 102 rfl rfl (fun hb => ?_) (fun hb => ?_)
            · skip
              have b27 := hb
              replace h := h.1 hb
              refine s_iconst (q := 201) 105 rfl ?_
              refine s_iload_n (q := 202) 106 0 rfl rfl ?_
              obtain ⟨c28, h⟩ := h
              refine PW.pick [] rfl ?_
              exact n_callV (N := mX9_emit) (as := [(0, 2), (0, (E (F (F x0 0) 1) (F x0 4)) - 259)]) (st := []) (q := 205) (d' := 0) 107 rfl uX9_emit kX5_82 rfl c28 h
            · have hb := Classical.not_not.mp hb
              have b27 := hb
              replace h := h.2 hb
              refine s_iconst (q := 197) 103 rfl ?_
              refine s_goto (tgt := 201) 104 rfl rfl ?_
              refine s_iload_n (q := 202) 106 0 rfl rfl ?_
              obtain ⟨c29, h⟩ := h
              refine PW.pick [] rfl ?_
              exact n_callV (N := mX9_emit) (as := [(0, 1), (0, (E (F (F x0 0) 1) (F x0 4)) - 259)]) (st := []) (q := 205) (d' := 0) 107 rfl uX9_emit kX5_82 rfl c29 h
          · have hb := Classical.not_not.mp hb
            have b25 := hb
            replace h := h.2 hb
            refine s_iconst (q := 174) 90 rfl ?_
            exact s_zret 91 rfl rfl (by decide) h
  · have hb := Classical.not_not.mp hb
    have b6 := hb
    replace h := h.2 hb
    refine s_aload_n (q := 33) 18 2 rfl rfl ?_
    refine s_sipush (q := 36) 19 rfl ?_
    refine PW.pick [2, 1] rfl ?_
    exact n_callV (N := mX5_numberTo) (as := [(0, 1000)]) (st := []) (q := 39) (d' := 0) 20 rfl uX5_numberTo kX5_86 rfl c1 h
theorem vX5_readSingle_39 {l : Launch} {G : pG} {bg : Nat × Nat} {n : Nat} {K : Int → Nat × Nat} {F E : Int → Int → Int} {Q : Option pV → pM → Prop} (x0 x1 s0 : Int) (h : ((¬ s0 = (-1) → (K x0).1 = 5 ∧ (-2147483648 ≤ (F x0 4) + 1 ∧ (F x0 4) + 1 < 2147483648) ∧ (∀ F1, F1 = pUp F x0 4 ((F x0 4) + 1) → ((¬ x1 = 257 → (K (F x0 1)).1 = 9 ∧ PC l G 0 mX9_emit (0, 0) [(2, F x0 1), (0, 2), (0, s0)] (n, K, F1, E) (fun r μ => PW l G 1 mX5_readSingle bg 205 [] (r.toList ++ []) μ Q)) ∧ (x1 = 257 → (K (F x0 1)).1 = 9 ∧ PC l G 0 mX9_emit (0, 0) [(2, F x0 1), (0, 1), (0, s0)] (n, K, F1, E) (fun r μ => PW l G 1 mX5_readSingle bg 205 [] (r.toList ++ []) μ Q))))) ∧ (s0 = (-1) → Q (some (0, 0)) (n, K, F, E)))) : PW l G 1 mX5_readSingle bg 39 [(0, (2, x0)), (1, (0, x1))] [(0, s0)] (n, K, F, E) Q := by
  refine s_istore_n (q := 40) (lv' := [(2, (0, s0)), (0, (2, x0)), (1, (0, x1))]) 21 rfl rfl ?_
  refine s_goto (tgt := 168) 22 rfl rfl ?_
  refine s_iload_n (q := 169) 87 0 rfl rfl ?_
  refine s_iconst (q := 170) 88 rfl ?_
  refine s_icmp_ne (q := 173) (tgt := 175) 89 rfl rfl (fun hb => ?_) (fun hb => ?_)
  · skip
    have b1 := hb
    replace h := h.1 hb
    refine s_aload_n (q := 176) 92 1 rfl rfl ?_
    refine s_dup (q := 177) 93 rfl ?_
    obtain ⟨c2, h⟩ := h
    refine n_getf (q := 180) (jj := 4) 94 5 4 rfl kX5_33 c2 ?_
    refine s_iconst (q := 181) 95 rfl ?_
    obtain ⟨c3, h⟩ := h
    refine n_iadd (q := 182) 96 rfl c3 ?_
    refine n_putf (q := 185) (jj := 4) 97 5 4 rfl kX5_33 c2 (Or.inl rfl) ?_
    refine PW.nameF (fun F1 eF1 => ?_)
    replace h := h F1 eF1
    refine s_aload_n (q := 186) 98 1 rfl rfl ?_
    refine n_getf (q := 189) (jj := 1) 99 5 1 rfl kX5_21 c2 ?_
    refine PW.top (b := F x0 1) (by exact (congrFun (congrFun eF1 _) _).trans (pUp_k (by decide))) ?_
    refine s_iload_n (q := 190) 100 2 rfl rfl ?_
    refine s_sipush (q := 193) 101 rfl ?_
    refine s_icmp_ne (q := 196) (tgt := 200) 102 rfl rfl (fun hb => ?_) (fun hb => ?_)
    · skip
      have b4 := hb
      replace h := h.1 hb
      refine s_iconst (q := 201) 105 rfl ?_
      refine s_iload_n (q := 202) 106 0 rfl rfl ?_
      obtain ⟨c5, h⟩ := h
      refine PW.pick [] rfl ?_
      exact n_callV (N := mX9_emit) (as := [(0, 2), (0, s0)]) (st := []) (q := 205) (d' := 0) 107 rfl uX9_emit kX5_82 rfl c5 h
    · have hb := Classical.not_not.mp hb
      have b4 := hb
      replace h := h.2 hb
      refine s_iconst (q := 197) 103 rfl ?_
      refine s_goto (tgt := 201) 104 rfl rfl ?_
      refine s_iload_n (q := 202) 106 0 rfl rfl ?_
      obtain ⟨c6, h⟩ := h
      refine PW.pick [] rfl ?_
      exact n_callV (N := mX9_emit) (as := [(0, 1), (0, s0)]) (st := []) (q := 205) (d' := 0) 107 rfl uX9_emit kX5_82 rfl c6 h
  · have hb := Classical.not_not.mp hb
    have b1 := hb
    replace h := h.2 hb
    refine s_iconst (q := 174) 90 rfl ?_
    exact s_zret 91 rfl rfl (by decide) h
theorem vX5_readSingle_119 {l : Launch} {G : pG} {bg : Nat × Nat} {n : Nat} {K : Int → Nat × Nat} {F E : Int → Int → Int} {Q : Option pV → pM → Prop} (x0 x1 s0 : Int) (h : ((¬ s0 = (-1) → ((¬ x1 = 272 → (-2147483648 ≤ s0 + 8 ∧ s0 + 8 < 2147483648) ∧ ((¬ (s0 + 8) = (-1) → (K x0).1 = 5 ∧ (-2147483648 ≤ (F x0 4) + 1 ∧ (F x0 4) + 1 < 2147483648) ∧ (∀ F1, F1 = pUp F x0 4 ((F x0 4) + 1) → ((¬ x1 = 257 → (K (F x0 1)).1 = 9 ∧ PC l G 0 mX9_emit (0, 0) [(2, F x0 1), (0, 2), (0, s0 + 8)] (n, K, F1, E) (fun r μ => PW l G 1 mX5_readSingle bg 205 [] (r.toList ++ []) μ Q)) ∧ (x1 = 257 → (K (F x0 1)).1 = 9 ∧ PC l G 0 mX9_emit (0, 0) [(2, F x0 1), (0, 1), (0, s0 + 8)] (n, K, F1, E) (fun r μ => PW l G 1 mX5_readSingle bg 205 [] (r.toList ++ []) μ Q))))) ∧ ((s0 + 8) = (-1) → Q (some (0, 0)) (n, K, F, E)))) ∧ (x1 = 272 → (-2147483648 ≤ s0 + 5 ∧ s0 + 5 < 2147483648) ∧ ((¬ (s0 + 5) = (-1) → (K x0).1 = 5 ∧ (-2147483648 ≤ (F x0 4) + 1 ∧ (F x0 4) + 1 < 2147483648) ∧ (∀ F2, F2 = pUp F x0 4 ((F x0 4) + 1) → ((¬ x1 = 257 → (K (F x0 1)).1 = 9 ∧ PC l G 0 mX9_emit (0, 0) [(2, F x0 1), (0, 2), (0, s0 + 5)] (n, K, F2, E) (fun r μ => PW l G 1 mX5_readSingle bg 205 [] (r.toList ++ []) μ Q)) ∧ (x1 = 257 → (K (F x0 1)).1 = 9 ∧ PC l G 0 mX9_emit (0, 0) [(2, F x0 1), (0, 1), (0, s0 + 5)] (n, K, F2, E) (fun r μ => PW l G 1 mX5_readSingle bg 205 [] (r.toList ++ []) μ Q))))) ∧ ((s0 + 5) = (-1) → Q (some (0, 0)) (n, K, F, E)))))) ∧ (s0 = (-1) → Q (some (0, 0)) (n, K, F, E)))) : PW l G 1 mX5_readSingle bg 119 [(0, (2, x0)), (1, (0, x1))] [(0, s0)] (n, K, F, E) Q := by
  refine s_istore_n (q := 120) (lv' := [(3, (0, s0)), (0, (2, x0)), (1, (0, x1))]) 61 rfl rfl ?_
  refine s_iload_n (q := 121) 62 0 rfl rfl ?_
  refine s_iconst (q := 122) 63 rfl ?_
  refine s_icmp_ne (q := 125) (tgt := 129) 64 rfl rfl (fun hb => ?_) (fun hb => ?_)
  · skip
    have b1 := hb
    replace h := h.1 hb
    refine s_iload_n (q := 130) 67 0 rfl rfl ?_
    refine s_iload_n (q := 131) 68 2 rfl rfl ?_
    refine s_sipush (q := 134) 69 rfl ?_
    refine s_icmp_ne (q := 137) (tgt := 141) 70 rfl rfl (fun hb => ?_) (fun hb => ?_)
    · skip
      have b2 := hb
      replace h := h.1 hb
      refine s_bipush (q := 143) 73 rfl ?_
      obtain ⟨c3, h⟩ := h
      refine n_iadd (q := 144) 74 rfl c3 ?_
      refine s_istore_n (q := 145) (lv' := [(2, (0, s0 + 8)), (3, (0, s0)), (0, (2, x0)), (1, (0, x1))]) 75 rfl rfl ?_
      refine s_goto (tgt := 168) 76 rfl rfl ?_
      refine s_iload_n (q := 169) 87 0 rfl rfl ?_
      refine s_iconst (q := 170) 88 rfl ?_
      refine s_icmp_ne (q := 173) (tgt := 175) 89 rfl rfl (fun hb => ?_) (fun hb => ?_)
      · skip
        have b4 := hb
        replace h := h.1 hb
        refine s_aload_n (q := 176) 92 2 rfl rfl ?_
        refine s_dup (q := 177) 93 rfl ?_
        obtain ⟨c5, h⟩ := h
        refine n_getf (q := 180) (jj := 4) 94 5 4 rfl kX5_33 c5 ?_
        refine s_iconst (q := 181) 95 rfl ?_
        obtain ⟨c6, h⟩ := h
        refine n_iadd (q := 182) 96 rfl c6 ?_
        refine n_putf (q := 185) (jj := 4) 97 5 4 rfl kX5_33 c5 (Or.inl rfl) ?_
        refine PW.nameF (fun F1 eF1 => ?_)
        replace h := h F1 eF1
        refine s_aload_n (q := 186) 98 2 rfl rfl ?_
        refine n_getf (q := 189) (jj := 1) 99 5 1 rfl kX5_21 c5 ?_
        refine PW.top (b := F x0 1) (by exact (congrFun (congrFun eF1 _) _).trans (pUp_k (by decide))) ?_
        refine s_iload_n (q := 190) 100 3 rfl rfl ?_
        refine s_sipush (q := 193) 101 rfl ?_
        refine s_icmp_ne (q := 196) (tgt := 200) 102 rfl rfl (fun hb => ?_) (fun hb => ?_)
        · skip
          have b7 := hb
          replace h := h.1 hb
          refine s_iconst (q := 201) 105 rfl ?_
          refine s_iload_n (q := 202) 106 0 rfl rfl ?_
          obtain ⟨c8, h⟩ := h
          refine PW.pick [] rfl ?_
          exact n_callV (N := mX9_emit) (as := [(0, 2), (0, s0 + 8)]) (st := []) (q := 205) (d' := 0) 107 rfl uX9_emit kX5_82 rfl c8 h
        · have hb := Classical.not_not.mp hb
          have b7 := hb
          replace h := h.2 hb
          refine s_iconst (q := 197) 103 rfl ?_
          refine s_goto (tgt := 201) 104 rfl rfl ?_
          refine s_iload_n (q := 202) 106 0 rfl rfl ?_
          obtain ⟨c9, h⟩ := h
          refine PW.pick [] rfl ?_
          exact n_callV (N := mX9_emit) (as := [(0, 1), (0, s0 + 8)]) (st := []) (q := 205) (d' := 0) 107 rfl uX9_emit kX5_82 rfl c9 h
      · have hb := Classical.not_not.mp hb
        have b4 := hb
        replace h := h.2 hb
        refine s_iconst (q := 174) 90 rfl ?_
        exact s_zret 91 rfl rfl (by decide) h
    · have hb := Classical.not_not.mp hb
      have b2 := hb
      replace h := h.2 hb
      refine s_iconst (q := 138) 71 rfl ?_
      refine s_goto (tgt := 143) 72 rfl rfl ?_
      obtain ⟨c10, h⟩ := h
      refine n_iadd (q := 144) 74 rfl c10 ?_
      refine s_istore_n (q := 145) (lv' := [(2, (0, s0 + 5)), (3, (0, s0)), (0, (2, x0)), (1, (0, x1))]) 75 rfl rfl ?_
      refine s_goto (tgt := 168) 76 rfl rfl ?_
      refine s_iload_n (q := 169) 87 0 rfl rfl ?_
      refine s_iconst (q := 170) 88 rfl ?_
      refine s_icmp_ne (q := 173) (tgt := 175) 89 rfl rfl (fun hb => ?_) (fun hb => ?_)
      · skip
        have b11 := hb
        replace h := h.1 hb
        refine s_aload_n (q := 176) 92 2 rfl rfl ?_
        refine s_dup (q := 177) 93 rfl ?_
        obtain ⟨c12, h⟩ := h
        refine n_getf (q := 180) (jj := 4) 94 5 4 rfl kX5_33 c12 ?_
        refine s_iconst (q := 181) 95 rfl ?_
        obtain ⟨c13, h⟩ := h
        refine n_iadd (q := 182) 96 rfl c13 ?_
        refine n_putf (q := 185) (jj := 4) 97 5 4 rfl kX5_33 c12 (Or.inl rfl) ?_
        refine PW.nameF (fun F2 eF2 => ?_)
        replace h := h F2 eF2
        refine s_aload_n (q := 186) 98 2 rfl rfl ?_
        refine n_getf (q := 189) (jj := 1) 99 5 1 rfl kX5_21 c12 ?_
        refine PW.top (b := F x0 1) (by exact (congrFun (congrFun eF2 _) _).trans (pUp_k (by decide))) ?_
        refine s_iload_n (q := 190) 100 3 rfl rfl ?_
        refine s_sipush (q := 193) 101 rfl ?_
        refine s_icmp_ne (q := 196) (tgt := 200) 102 rfl rfl (fun hb => ?_) (fun hb => ?_)
        · skip
          have b14 := hb
          replace h := h.1 hb
          refine s_iconst (q := 201) 105 rfl ?_
          refine s_iload_n (q := 202) 106 0 rfl rfl ?_
          obtain ⟨c15, h⟩ := h
          refine PW.pick [] rfl ?_
          exact n_callV (N := mX9_emit) (as := [(0, 2), (0, s0 + 5)]) (st := []) (q := 205) (d' := 0) 107 rfl uX9_emit kX5_82 rfl c15 h
        · have hb := Classical.not_not.mp hb
          have b14 := hb
          replace h := h.2 hb
          refine s_iconst (q := 197) 103 rfl ?_
          refine s_goto (tgt := 201) 104 rfl rfl ?_
          refine s_iload_n (q := 202) 106 0 rfl rfl ?_
          obtain ⟨c16, h⟩ := h
          refine PW.pick [] rfl ?_
          exact n_callV (N := mX9_emit) (as := [(0, 1), (0, s0 + 5)]) (st := []) (q := 205) (d' := 0) 107 rfl uX9_emit kX5_82 rfl c16 h
      · have hb := Classical.not_not.mp hb
        have b11 := hb
        replace h := h.2 hb
        refine s_iconst (q := 174) 90 rfl ?_
        exact s_zret 91 rfl rfl (by decide) h
  · have hb := Classical.not_not.mp hb
    have b1 := hb
    replace h := h.2 hb
    refine s_iconst (q := 126) 65 rfl ?_
    refine s_goto (tgt := 144) 66 rfl rfl ?_
    refine s_istore_n (q := 145) (lv' := [(2, (0, (-1))), (3, (0, s0)), (0, (2, x0)), (1, (0, x1))]) 75 rfl rfl ?_
    refine s_goto (tgt := 168) 76 rfl rfl ?_
    refine s_iload_n (q := 169) 87 0 rfl rfl ?_
    refine s_iconst (q := 170) 88 rfl ?_
    refine s_icmp_ne (q := 173) (tgt := 175) 89 rfl rfl (fun hb => absurd hb (by decide)) (fun _ => ?_)
    refine s_iconst (q := 174) 90 rfl ?_
    exact s_zret 91 rfl rfl (by decide) h
theorem vX5_readSingle_205 {l : Launch} {G : pG} {bg : Nat × Nat} {n : Nat} {K : Int → Nat × Nat} {F E : Int → Int → Int} {Q : Option pV → pM → Prop} (s0 : Int) (h : Q (some (0, 1)) (n, K, F, E)) : PW l G 1 mX5_readSingle bg 205 [] [(0, s0)] (n, K, F, E) Q := by
  refine s_pop (q := 206) 108 rfl ?_
  refine s_iconst (q := 207) 109 rfl ?_
  exact s_zret 110 rfl rfl (by decide) h
theorem vX5_numberTo_0 {l : Launch} {G : pG} {bg : Nat × Nat} {n : Nat} {K : Int → Nat × Nat} {F E : Int → Int → Int} {Q : Option pV → pM → Prop} (x0 x1 : Int) (h : (K x0).1 = 5 ∧ (K (F x0 0)).1 = 10 ∧ (K (F (F x0 0) 1)).1 = 20 ∧ ((0 : Int) ≤ F x0 4 ∧ F x0 4 < ((K (F (F x0 0) 1)).2 : Int)) ∧ ((¬ (E (F (F x0 0) 1) (F x0 4)) = 257 → Q (some (0, (-1))) (n, K, F, E)) ∧ ((E (F (F x0 0) 1) (F x0 4)) = 257 → (K (F (F x0 0) 3)).1 = 20 ∧ ((0 : Int) ≤ F x0 4 ∧ F x0 4 < ((K (F (F x0 0) 3)).2 : Int)) ∧ ((x1 < E (F (F x0 0) 3) (F x0 4) → Q (some (0, (-1))) (n, K, F, E)) ∧ (¬ (x1 < E (F (F x0 0) 3) (F x0 4)) → Q (some (0, E (F (F x0 0) 3) (F x0 4))) (n, K, F, E)))))) : PW l G 0 mX5_numberTo bg 0 [(0, (2, x0)), (1, (0, x1))] [] (n, K, F, E) Q := by
  refine s_aload_n (q := 1) 0 0 rfl rfl ?_
  obtain ⟨c1, h⟩ := h
  refine n_getf (q := 4) (jj := 0) 1 5 0 rfl kX5_12 c1 ?_
  obtain ⟨c2, h⟩ := h
  refine n_getf (q := 7) (jj := 1) 2 10 1 rfl kX5_60 c2 ?_
  refine s_aload_n (q := 8) 3 0 rfl rfl ?_
  refine n_getf (q := 11) (jj := 4) 4 5 4 rfl kX5_33 c1 ?_
  obtain ⟨c3, h⟩ := h
  obtain ⟨c4, h⟩ := h
  refine n_iald (q := 12) 5 rfl c3 c4 ?_
  refine s_sipush (q := 15) 6 rfl ?_
  refine s_icmp_ne (q := 18) (tgt := 38) 7 rfl rfl (fun hb => ?_) (fun hb => ?_)
  · skip
    have b5 := hb
    replace h := h.1 hb
    refine s_iconst (q := 39) 18 rfl ?_
    refine s_istore_n (q := 40) (lv' := [(2, (0, 0)), (0, (2, x0)), (1, (0, x1))]) 19 rfl rfl ?_
    refine s_iload_n (q := 41) 20 0 rfl rfl ?_
    refine s_if_eq (q := 44) (tgt := 59) 21 rfl rfl (fun _ => ?_) (fun hb => absurd (by decide) hb)
    refine s_iconst (q := 60) 29 rfl ?_
    exact s_iret 30 rfl rfl h
  · have hb := Classical.not_not.mp hb
    have b5 := hb
    replace h := h.2 hb
    refine s_aload_n (q := 19) 8 0 rfl rfl ?_
    refine n_getf (q := 22) (jj := 0) 9 5 0 rfl kX5_12 c1 ?_
    refine n_getf (q := 25) (jj := 3) 10 10 3 rfl kX5_116 c2 ?_
    refine s_aload_n (q := 26) 11 0 rfl rfl ?_
    refine n_getf (q := 29) (jj := 4) 12 5 4 rfl kX5_33 c1 ?_
    obtain ⟨c6, h⟩ := h
    obtain ⟨c7, h⟩ := h
    refine n_iald (q := 30) 13 rfl c6 c7 ?_
    refine s_iload_n (q := 31) 14 1 rfl rfl ?_
    refine s_icmp_gt (q := 34) (tgt := 38) 15 rfl rfl (fun hb => ?_) (fun hb => ?_)
    · skip
      have b8 := hb
      replace h := h.1 hb
      refine s_iconst (q := 39) 18 rfl ?_
      refine s_istore_n (q := 40) (lv' := [(2, (0, 0)), (0, (2, x0)), (1, (0, x1))]) 19 rfl rfl ?_
      refine s_iload_n (q := 41) 20 0 rfl rfl ?_
      refine s_if_eq (q := 44) (tgt := 59) 21 rfl rfl (fun _ => ?_) (fun hb => absurd (by decide) hb)
      refine s_iconst (q := 60) 29 rfl ?_
      exact s_iret 30 rfl rfl h
    · skip
      have b8 := hb
      replace h := h.2 hb
      refine s_iconst (q := 35) 16 rfl ?_
      refine s_goto (tgt := 39) 17 rfl rfl ?_
      refine s_istore_n (q := 40) (lv' := [(2, (0, 1)), (0, (2, x0)), (1, (0, x1))]) 19 rfl rfl ?_
      refine s_iload_n (q := 41) 20 0 rfl rfl ?_
      refine s_if_eq (q := 44) (tgt := 59) 21 rfl rfl (fun hb => absurd hb (by decide)) (fun _ => ?_)
      refine s_aload_n (q := 45) 22 1 rfl rfl ?_
      refine n_getf (q := 48) (jj := 0) 23 5 0 rfl kX5_12 c1 ?_
      refine n_getf (q := 51) (jj := 3) 24 10 3 rfl kX5_116 c2 ?_
      refine s_aload_n (q := 52) 25 1 rfl rfl ?_
      refine n_getf (q := 55) (jj := 4) 26 5 4 rfl kX5_33 c1 ?_
      refine n_iald (q := 56) 27 rfl c6 c7 ?_
      refine s_goto (tgt := 60) 28 rfl rfl ?_
      exact s_iret 30 rfl rfl h
theorem vX6_setTuple_0 {l : Launch} {G : pG} {bg : Nat × Nat} {n : Nat} {K : Int → Nat × Nat} {F E : Int → Int → Int} {Q : Option pV → pM → Prop} (x0 x1 x2 x3 x4 : Int) (h : (K x0).1 = 6 ∧ (∀ F1, F1 = pUp F x0 2 x1 → (0 : Int) ≤ F x0 1 ∧ (K (F x0 1)).1 = 20 ∧ ((0 : Int) ≤ 2 ∧ 2 < ((K (F x0 1)).2 : Int)) ∧ (∀ E2, E2 = pUp E (F x0 1) 2 x2 → ((0 : Int) ≤ 3 ∧ 3 < ((K (F x0 1)).2 : Int)) ∧ (∀ E3, E3 = pUp E2 (F x0 1) 3 x3 → ((0 : Int) ≤ 4 ∧ 4 < ((K (F x0 1)).2 : Int)) ∧ (∀ E4, E4 = pUp E3 (F x0 1) 4 x4 → (K x1).1 = 0 ∧ (K (F x1 0)).1 = 20 ∧ ((0 : Int) ≤ 1 ∧ 1 < ((K (F x1 0)).2 : Int)) ∧ (-2147483648 ≤ (E4 (F x1 0) 1) + 1 ∧ (E4 (F x1 0) 1) + 1 < 2147483648) ∧ ((0 : Int) ≤ 8 ∧ 8 < ((K (F x0 1)).2 : Int)) ∧ (∀ E5, E5 = pUp E4 (F x0 1) 8 ((E4 (F x1 0) 1) + 1) → PW l G 1 mX6_setTuple bg 43 [(0, (2, x0)), (1, (2, x1)), (2, (0, x2)), (3, (0, x3)), (4, (0, x4)), (5, (0, 0))] [] (n, K, F1, E5) Q)))))) : PW l G 1 mX6_setTuple bg 0 [(0, (2, x0)), (1, (2, x1)), (2, (0, x2)), (3, (0, x3)), (4, (0, x4))] [] (n, K, F, E) Q := by
  refine s_aload_n (q := 1) 0 0 rfl rfl ?_
  refine s_aload_n (q := 2) 1 1 rfl rfl ?_
  obtain ⟨c1, h⟩ := h
  refine n_putf (q := 5) (jj := 2) 2 6 2 rfl kX6_25 c1 (Or.inr (Or.inr (Or.inr (Or.inl ⟨_, rfl⟩)))) ?_
  refine PW.nameF (fun F1 eF1 => ?_)
  replace h := h F1 eF1
  refine s_aload_n (q := 6) 3 0 rfl rfl ?_
  refine n_getf (q := 9) (jj := 1) 4 6 1 rfl kX6_18 c1 ?_
  refine PW.top (b := F x0 1) (by exact (congrFun (congrFun eF1 _) _).trans (pUp_k (by decide))) ?_
  refine s_iconst (q := 10) 5 rfl ?_
  refine s_iload_n (q := 11) 6 2 rfl rfl ?_
  obtain ⟨c2, h⟩ := h
  obtain ⟨c3, h⟩ := h
  obtain ⟨c4, h⟩ := h
  refine n_iast (q := 12) 7 rfl c2 c3 c4 ?_
  refine PW.nameE (fun E2 eE2 => ?_)
  replace h := h E2 eE2
  refine s_aload_n (q := 13) 8 0 rfl rfl ?_
  refine n_getf (q := 16) (jj := 1) 9 6 1 rfl kX6_18 c1 ?_
  refine PW.top (b := F x0 1) (by exact (congrFun (congrFun eF1 _) _).trans (pUp_k (by decide))) ?_
  refine s_iconst (q := 17) 10 rfl ?_
  refine s_iload_n (q := 18) 11 3 rfl rfl ?_
  obtain ⟨c5, h⟩ := h
  refine n_iast (q := 19) 12 rfl c2 c3 c5 ?_
  refine PW.nameE (fun E3 eE3 => ?_)
  replace h := h E3 eE3
  refine s_aload_n (q := 20) 13 0 rfl rfl ?_
  refine n_getf (q := 23) (jj := 1) 14 6 1 rfl kX6_18 c1 ?_
  refine PW.top (b := F x0 1) (by exact (congrFun (congrFun eF1 _) _).trans (pUp_k (by decide))) ?_
  refine s_iconst (q := 24) 15 rfl ?_
  refine s_iload (q := 26) 16 4 rfl rfl ?_
  obtain ⟨c6, h⟩ := h
  refine n_iast (q := 27) 17 rfl c2 c3 c6 ?_
  refine PW.nameE (fun E4 eE4 => ?_)
  replace h := h E4 eE4
  refine s_aload_n (q := 28) 18 0 rfl rfl ?_
  refine n_getf (q := 31) (jj := 1) 19 6 1 rfl kX6_18 c1 ?_
  refine PW.top (b := F x0 1) (by exact (congrFun (congrFun eF1 _) _).trans (pUp_k (by decide))) ?_
  refine s_bipush (q := 33) 20 rfl ?_
  refine s_aload_n (q := 34) 21 1 rfl rfl ?_
  obtain ⟨c7, h⟩ := h
  refine n_callV (N := mX0_latestStamp) (as := []) (st := [(0, 8), (2, F x0 1)]) (q := 37) (d' := 0) 22 rfl uX0_latestStamp kX6_74 rfl c7 ?_
  show PW l G 0 mX0_latestStamp (0, 0) 0 [(0, (2, x1))] [] (n, K, F1, E4) _
  refine s_aload_n (q := 1) 0 0 rfl rfl ?_
  refine n_getf (q := 4) (jj := 0) 1 0 0 rfl kX0_11 c7 ?_
  refine PW.top (b := F x1 0) (by exact (congrFun (congrFun eF1 _) _).trans (pUp_K c1 c7 (by decide))) ?_
  refine s_iconst (q := 5) 2 rfl ?_
  obtain ⟨c8, h⟩ := h
  obtain ⟨c9, h⟩ := h
  refine n_iald (q := 6) 3 rfl c8 c9 ?_
  refine s_iret 4 rfl rfl ?_
  show PW l G 1 mX6_setTuple bg 37 [(0, (2, x0)), (1, (2, x1)), (2, (0, x2)), (3, (0, x3)), (4, (0, x4))] [(0, E4 (F x1 0) 1), (0, 8), (2, F x0 1)] (n, K, F1, E4) Q
  refine s_iconst (q := 38) 23 rfl ?_
  obtain ⟨c10, h⟩ := h
  refine n_iadd (q := 39) 24 rfl c10 ?_
  obtain ⟨c11, h⟩ := h
  refine n_iast (q := 40) 25 rfl c2 c3 c11 ?_
  refine PW.nameE (fun E5 eE5 => ?_)
  replace h := h E5 eE5
  refine s_iconst (q := 41) 26 rfl ?_
  refine s_istore (q := 43) (lv' := [(5, (0, 0)), (0, (2, x0)), (1, (2, x1)), (2, (0, x2)), (3, (0, x3)), (4, (0, x4))]) 27 rfl rfl ?_
  refine PW.pick [1, 2, 3, 4, 5, 0] rfl ?_
  exact h
theorem vX6_setTuple_43 {l : Launch} {G : pG} {bg : Nat × Nat} {n : Nat} {K : Int → Nat × Nat} {F E : Int → Int → Int} {Q : Option pV → pM → Prop} (x0 x1 x2 x3 x4 x5 : Int) (h : ((3 ≤ x5 → (K x0).1 = 6 ∧ (K (F x0 1)).1 = 20 ∧ ((0 : Int) ≤ 8 ∧ 8 < ((K (F x0 1)).2 : Int)) ∧ (-2147483648 ≤ x2 * 2 ∧ x2 * 2 < 2147483648) ∧ (0 : Int) ≤ F x0 8 ∧ (K (F x0 8)).1 = 20 ∧ ((0 : Int) ≤ x2 * 2 ∧ x2 * 2 < ((K (F x0 8)).2 : Int)) ∧ (∀ E1, E1 = pUp E (F x0 8) (x2 * 2) x3 → (-2147483648 ≤ (x2 * 2) + 1 ∧ (x2 * 2) + 1 < 2147483648) ∧ ((0 : Int) ≤ (x2 * 2) + 1 ∧ (x2 * 2) + 1 < ((K (F x0 8)).2 : Int)) ∧ (∀ E2, E2 = pUp E1 (F x0 8) ((x2 * 2) + 1) x4 → (0 : Int) ≤ F x0 7 ∧ (K (F x0 7)).1 = 20 ∧ ((0 : Int) ≤ x2 ∧ x2 < ((K (F x0 7)).2 : Int)) ∧ (∀ E3, E3 = pUp E2 (F x0 7) x2 (E (F x0 1) 8) → PW l G 1 mX6_setTuple bg 81 [(0, (2, x0)), (1, (2, x1)), (5, (0, 0))] [] (n, K, F, E3) Q)))) ∧ (¬ (3 ≤ x5) → (K x0).1 = 6 ∧ (0 : Int) ≤ F x0 7 ∧ (K (F x0 7)).1 = 20 ∧ ((0 : Int) ≤ x5 ∧ x5 < ((K (F x0 7)).2 : Int)) ∧ (∀ E4, E4 = pUp E (F x0 7) x5 0 → (-2147483648 ≤ x5 + 1 ∧ x5 + 1 < 2147483648) ∧ PW l G 1 mX6_setTuple bg 43 [(0, (2, x0)), (1, (2, x1)), (2, (0, x2)), (3, (0, x3)), (4, (0, x4)), (5, (0, x5 + 1))] [] (n, K, F, E4) Q)))) : PW l G 1 mX6_setTuple bg 43 [(0, (2, x0)), (1, (2, x1)), (2, (0, x2)), (3, (0, x3)), (4, (0, x4)), (5, (0, x5))] [] (n, K, F, E) Q := by
  refine s_iload (q := 45) 28 5 rfl rfl ?_
  refine s_iconst (q := 46) 29 rfl ?_
  refine s_icmp_ge (q := 49) (tgt := 63) 30 rfl rfl (fun hb => ?_) (fun hb => ?_)
  · skip
    have b1 := hb
    replace h := h.1 hb
    refine s_aload_n (q := 64) 38 0 rfl rfl ?_
    refine s_iload_n (q := 65) 39 2 rfl rfl ?_
    refine s_iload_n (q := 66) 40 3 rfl rfl ?_
    refine s_iload (q := 68) 41 4 rfl rfl ?_
    refine s_aload_n (q := 69) 42 0 rfl rfl ?_
    obtain ⟨c2, h⟩ := h
    refine n_getf (q := 72) (jj := 1) 43 6 1 rfl kX6_18 c2 ?_
    refine s_bipush (q := 74) 44 rfl ?_
    obtain ⟨c3, h⟩ := h
    obtain ⟨c4, h⟩ := h
    refine n_iald (q := 75) 45 rfl c3 c4 ?_
    refine n_callV (N := mX6_hold) (as := [(0, x2), (0, x3), (0, x4), (0, E (F x0 1) 8)]) (st := []) (q := 78) (d' := 0) 46 rfl uX6_hold kX6_78 rfl c2 ?_
    show PW l G 0 mX6_hold (0, 0) 0 [(0, (2, x0)), (1, (0, x2)), (2, (0, x3)), (3, (0, x4)), (4, (0, E (F x0 1) 8))] [] (n, K, F, E) _
    refine s_aload_n (q := 1) 0 0 rfl rfl ?_
    refine n_getf (q := 4) (jj := 8) 1 6 8 rfl kX6_46 c2 ?_
    refine s_iload_n (q := 5) 2 1 rfl rfl ?_
    refine s_iconst (q := 6) 3 rfl ?_
    obtain ⟨c5, h⟩ := h
    refine n_imul (q := 7) 4 rfl c5 ?_
    refine s_iload_n (q := 8) 5 2 rfl rfl ?_
    obtain ⟨c6, h⟩ := h
    obtain ⟨c7, h⟩ := h
    obtain ⟨c8, h⟩ := h
    refine n_iast (q := 9) 6 rfl c6 c7 c8 ?_
    refine PW.nameE (fun E1 eE1 => ?_)
    replace h := h E1 eE1
    refine s_aload_n (q := 10) 7 0 rfl rfl ?_
    refine n_getf (q := 13) (jj := 8) 8 6 8 rfl kX6_46 c2 ?_
    refine s_iload_n (q := 14) 9 1 rfl rfl ?_
    refine s_iconst (q := 15) 10 rfl ?_
    refine n_imul (q := 16) 11 rfl c5 ?_
    refine s_iconst (q := 17) 12 rfl ?_
    obtain ⟨c9, h⟩ := h
    refine n_iadd (q := 18) 13 rfl c9 ?_
    refine s_iload_n (q := 19) 14 3 rfl rfl ?_
    obtain ⟨c10, h⟩ := h
    refine n_iast (q := 20) 15 rfl c6 c7 c10 ?_
    refine PW.nameE (fun E2 eE2 => ?_)
    replace h := h E2 eE2
    refine s_aload_n (q := 21) 16 0 rfl rfl ?_
    refine n_getf (q := 24) (jj := 7) 17 6 7 rfl kX6_43 c2 ?_
    refine s_iload_n (q := 25) 18 1 rfl rfl ?_
    refine s_iload (q := 27) 19 4 rfl rfl ?_
    obtain ⟨c11, h⟩ := h
    obtain ⟨c12, h⟩ := h
    obtain ⟨c13, h⟩ := h
    refine n_iast (q := 28) 20 rfl c11 c12 c13 ?_
    refine PW.nameE (fun E3 eE3 => ?_)
    replace h := h E3 eE3
    refine s_vret 21 rfl rfl ?_
    show PW l G 1 mX6_setTuple bg 78 [(0, (2, x0)), (1, (2, x1)), (2, (0, x2)), (3, (0, x3)), (4, (0, x4)), (5, (0, x5))] [] (n, K, F, E3) Q
    refine s_iconst (q := 79) 47 rfl ?_
    refine s_istore (q := 81) (lv' := [(5, (0, 0)), (0, (2, x0)), (1, (2, x1)), (2, (0, x2)), (3, (0, x3)), (4, (0, x4))]) 48 rfl rfl ?_
    refine PW.pick [1, 2, 0] rfl ?_
    exact h
  · skip
    have b1 := hb
    replace h := h.2 hb
    refine s_aload_n (q := 50) 31 0 rfl rfl ?_
    obtain ⟨c14, h⟩ := h
    refine n_getf (q := 53) (jj := 7) 32 6 7 rfl kX6_43 c14 ?_
    refine s_iload (q := 55) 33 5 rfl rfl ?_
    refine s_iconst (q := 56) 34 rfl ?_
    obtain ⟨c15, h⟩ := h
    obtain ⟨c16, h⟩ := h
    obtain ⟨c17, h⟩ := h
    refine n_iast (q := 57) 35 rfl c15 c16 c17 ?_
    refine PW.nameE (fun E4 eE4 => ?_)
    replace h := h E4 eE4
    obtain ⟨c18, h⟩ := h
    refine n_iinc (q := 60) (lv' := [(5, (0, x5 + 1)), (0, (2, x0)), (1, (2, x1)), (2, (0, x2)), (3, (0, x3)), (4, (0, x4))]) 36 5 rfl rfl c18 rfl ?_
    refine s_goto (tgt := 43) 37 rfl rfl ?_
    refine PW.pick [1, 2, 3, 4, 5, 0] rfl ?_
    exact h
theorem vX6_setTuple_81 {l : Launch} {G : pG} {bg : Nat × Nat} {n : Nat} {K : Int → Nat × Nat} {F E : Int → Int → Int} {Q : Option pV → pM → Prop} (x0 x1 x5 : Int) (h : (K x1).1 = 0 ∧ (K (F x1 0)).1 = 20 ∧ ((0 : Int) ≤ 0 ∧ 0 < ((K (F x1 0)).2 : Int)) ∧ ((E (F x1 0) 0 ≤ x5 → (K x0).1 = 6 ∧ (∀ F1, F1 = pUp F x0 6 0 → (∀ F2, F2 = pUp F1 x0 12 0 → (∀ F3, F3 = pUp F2 x0 13 0 → (∀ F4, F4 = pUp F3 x0 14 0 → (∀ F5, F5 = pUp F4 x0 15 0 → (∀ F6, F6 = pUp F5 x0 16 0 → Q none (n, K, F6, E)))))))) ∧ (¬ (E (F x1 0) 0 ≤ x5) → (K x0).1 = 6 ∧ (-2147483648 ≤ x5 * 6 ∧ x5 * 6 < 2147483648) ∧ (-2147483648 ≤ 12 + (x5 * 6) ∧ 12 + (x5 * 6) < 2147483648) ∧ (-2147483648 ≤ (12 + (x5 * 6)) + 5 ∧ (12 + (x5 * 6)) + 5 < 2147483648) ∧ ((0 : Int) ≤ (12 + (x5 * 6)) + 5 ∧ (12 + (x5 * 6)) + 5 < ((K (F x1 0)).2 : Int)) ∧ (0 : Int) ≤ F x0 9 ∧ (K (F x0 9)).1 = 20 ∧ ((0 : Int) ≤ x5 ∧ x5 < ((K (F x0 9)).2 : Int)) ∧ (∀ E7, E7 = pUp E (F x0 9) x5 (E (F x1 0) ((12 + (x5 * 6)) + 5)) → (-2147483648 ≤ x5 + 1 ∧ x5 + 1 < 2147483648) ∧ PW l G 1 mX6_setTuple bg 81 [(0, (2, x0)), (1, (2, x1)), (5, (0, x5 + 1))] [] (n, K, F, E7) Q)))) : PW l G 1 mX6_setTuple bg 81 [(0, (2, x0)), (1, (2, x1)), (5, (0, x5))] [] (n, K, F, E) Q := by
  refine s_iload (q := 83) 49 2 rfl rfl ?_
  refine s_aload_n (q := 84) 50 1 rfl rfl ?_
  obtain ⟨c1, h⟩ := h
  refine n_callV (N := mX0_operators) (as := []) (st := [(0, x5)]) (q := 87) (d' := 0) 51 rfl uX0_operators kX6_82 rfl c1 ?_
  show PW l G 0 mX0_operators (0, 0) 0 [(0, (2, x1))] [] (n, K, F, E) _
  refine s_aload_n (q := 1) 0 0 rfl rfl ?_
  refine n_getf (q := 4) (jj := 0) 1 0 0 rfl kX0_11 c1 ?_
  refine s_iconst (q := 5) 2 rfl ?_
  obtain ⟨c2, h⟩ := h
  obtain ⟨c3, h⟩ := h
  refine n_iald (q := 6) 3 rfl c2 c3 ?_
  refine s_iret 4 rfl rfl ?_
  show PW l G 1 mX6_setTuple bg 87 [(0, (2, x0)), (1, (2, x1)), (5, (0, x5))] [(0, E (F x1 0) 0), (0, x5)] (n, K, F, E) Q
  refine s_icmp_ge (q := 90) (tgt := 110) 52 rfl rfl (fun hb => ?_) (fun hb => ?_)
  · skip
    have b4 := hb
    replace h := h.1 hb
    refine s_aload_n (q := 111) 63 0 rfl rfl ?_
    refine s_iconst (q := 112) 64 rfl ?_
    obtain ⟨c5, h⟩ := h
    refine n_putf (q := 115) (jj := 6) 65 6 6 rfl kX6_40 c5 (Or.inl rfl) ?_
    refine PW.nameF (fun F1 eF1 => ?_)
    replace h := h F1 eF1
    refine s_aload_n (q := 116) 66 0 rfl rfl ?_
    refine s_iconst (q := 117) 67 rfl ?_
    refine n_putf (q := 120) (jj := 12) 68 6 12 rfl kX6_58 c5 (Or.inl rfl) ?_
    refine PW.nameF (fun F2 eF2 => ?_)
    replace h := h F2 eF2
    refine s_aload_n (q := 121) 69 0 rfl rfl ?_
    refine s_iconst (q := 122) 70 rfl ?_
    refine n_putf (q := 125) (jj := 13) 71 6 13 rfl kX6_61 c5 (Or.inl rfl) ?_
    refine PW.nameF (fun F3 eF3 => ?_)
    replace h := h F3 eF3
    refine s_aload_n (q := 126) 72 0 rfl rfl ?_
    refine s_iconst (q := 127) 73 rfl ?_
    refine n_putf (q := 130) (jj := 14) 74 6 14 rfl kX6_64 c5 (Or.inl rfl) ?_
    refine PW.nameF (fun F4 eF4 => ?_)
    replace h := h F4 eF4
    refine s_aload_n (q := 131) 75 0 rfl rfl ?_
    refine s_iconst (q := 132) 76 rfl ?_
    refine n_putf (q := 135) (jj := 15) 77 6 15 rfl kX6_67 c5 (Or.inl rfl) ?_
    refine PW.nameF (fun F5 eF5 => ?_)
    replace h := h F5 eF5
    refine s_aload_n (q := 136) 78 0 rfl rfl ?_
    refine s_iconst (q := 137) 79 rfl ?_
    refine n_putf (q := 140) (jj := 16) 80 6 16 rfl kX6_70 c5 (Or.inr (Or.inr (Or.inl ⟨rfl, (by decide)⟩))) ?_
    refine PW.nameF (fun F6 eF6 => ?_)
    replace h := h F6 eF6
    exact s_vret 81 rfl rfl h
  · skip
    have b4 := hb
    replace h := h.2 hb
    refine s_aload_n (q := 91) 53 0 rfl rfl ?_
    obtain ⟨c6, h⟩ := h
    refine n_getf (q := 94) (jj := 9) 54 6 9 rfl kX6_49 c6 ?_
    refine s_iload (q := 96) 55 2 rfl rfl ?_
    refine s_aload_n (q := 97) 56 1 rfl rfl ?_
    refine s_iload (q := 99) 57 2 rfl rfl ?_
    refine s_iconst (q := 100) 58 rfl ?_
    refine n_callV (N := mX0_part) (as := [(0, x5), (0, 5)]) (st := [(0, x5), (2, F x0 9)]) (q := 103) (d' := 0) 59 rfl uX0_part kX6_85 rfl c1 ?_
    show PW l G 0 mX0_part (0, 0) 0 [(0, (2, x1)), (1, (0, x5)), (2, (0, 5))] [] (n, K, F, E) _
    refine s_aload_n (q := 1) 0 0 rfl rfl ?_
    refine n_getf (q := 4) (jj := 0) 1 0 0 rfl kX0_11 c1 ?_
    refine s_bipush (q := 6) 2 rfl ?_
    refine s_iload_n (q := 7) 3 1 rfl rfl ?_
    refine s_bipush (q := 9) 4 rfl ?_
    obtain ⟨c7, h⟩ := h
    refine n_imul (q := 10) 5 rfl c7 ?_
    obtain ⟨c8, h⟩ := h
    refine n_iadd (q := 11) 6 rfl c8 ?_
    refine s_iload_n (q := 12) 7 2 rfl rfl ?_
    obtain ⟨c9, h⟩ := h
    refine n_iadd (q := 13) 8 rfl c9 ?_
    obtain ⟨c10, h⟩ := h
    refine n_iald (q := 14) 9 rfl c2 c10 ?_
    refine s_iret 10 rfl rfl ?_
    show PW l G 1 mX6_setTuple bg 103 [(0, (2, x0)), (1, (2, x1)), (5, (0, x5))] [(0, E (F x1 0) ((12 + (x5 * 6)) + 5)), (0, x5), (2, F x0 9)] (n, K, F, E) Q
    obtain ⟨c11, h⟩ := h
    obtain ⟨c12, h⟩ := h
    obtain ⟨c13, h⟩ := h
    refine n_iast (q := 104) 60 rfl c11 c12 c13 ?_
    refine PW.nameE (fun E7 eE7 => ?_)
    replace h := h E7 eE7
    obtain ⟨c14, h⟩ := h
    refine n_iinc (q := 107) (lv' := [(5, (0, x5 + 1)), (0, (2, x0)), (1, (2, x1))]) 61 2 rfl rfl c14 rfl ?_
    refine s_goto (tgt := 81) 62 rfl rfl ?_
    refine PW.pick [1, 2, 0] rfl ?_
    exact h
theorem vX6_isBarred_0 {l : Launch} {G : pG} {bg : Nat × Nat} {n : Nat} {K : Int → Nat × Nat} {F E : Int → Int → Int} {Q : Option pV → pM → Prop} (x0 : Int) (h : (K x0).1 = 6 ∧ (0 : Int) ≤ F x0 1 ∧ (K (F x0 1)).1 = 20 ∧ ((0 : Int) ≤ 1 ∧ 1 < ((K (F x0 1)).2 : Int)) ∧ (∀ E1, E1 = pUp E (F x0 1) 1 (-1) → ((0 : Int) ≤ 5 ∧ 5 < ((K (F x0 1)).2 : Int)) ∧ (∀ E2, E2 = pUp E1 (F x0 1) 5 (-1) → ((0 : Int) ≤ 0 ∧ 0 < ((K (F x0 1)).2 : Int)) ∧ (∀ E3, E3 = pUp E2 (F x0 1) 0 (-1) → ((0 : Int) ≤ 6 ∧ 6 < ((K (F x0 1)).2 : Int)) ∧ (∀ E4, E4 = pUp E3 (F x0 1) 6 (-1) → PW l G 3 mX6_isBarred bg 31 [(0, (2, x0)), (1, (0, 0))] [] (n, K, F, E4) Q))))) : PW l G 3 mX6_isBarred bg 0 [(0, (2, x0))] [] (n, K, F, E) Q := by
  refine s_aload_n (q := 1) 0 0 rfl rfl ?_
  obtain ⟨c1, h⟩ := h
  refine n_getf (q := 4) (jj := 1) 1 6 1 rfl kX6_18 c1 ?_
  refine s_iconst (q := 5) 2 rfl ?_
  refine s_iconst (q := 6) 3 rfl ?_
  obtain ⟨c2, h⟩ := h
  obtain ⟨c3, h⟩ := h
  obtain ⟨c4, h⟩ := h
  refine n_iast (q := 7) 4 rfl c2 c3 c4 ?_
  refine PW.nameE (fun E1 eE1 => ?_)
  replace h := h E1 eE1
  refine s_aload_n (q := 8) 5 0 rfl rfl ?_
  refine n_getf (q := 11) (jj := 1) 6 6 1 rfl kX6_18 c1 ?_
  refine s_iconst (q := 12) 7 rfl ?_
  refine s_iconst (q := 13) 8 rfl ?_
  obtain ⟨c5, h⟩ := h
  refine n_iast (q := 14) 9 rfl c2 c3 c5 ?_
  refine PW.nameE (fun E2 eE2 => ?_)
  replace h := h E2 eE2
  refine s_aload_n (q := 15) 10 0 rfl rfl ?_
  refine n_getf (q := 18) (jj := 1) 11 6 1 rfl kX6_18 c1 ?_
  refine s_iconst (q := 19) 12 rfl ?_
  refine s_iconst (q := 20) 13 rfl ?_
  obtain ⟨c6, h⟩ := h
  refine n_iast (q := 21) 14 rfl c2 c3 c6 ?_
  refine PW.nameE (fun E3 eE3 => ?_)
  replace h := h E3 eE3
  refine s_aload_n (q := 22) 15 0 rfl rfl ?_
  refine n_getf (q := 25) (jj := 1) 16 6 1 rfl kX6_18 c1 ?_
  refine s_bipush (q := 27) 17 rfl ?_
  refine s_iconst (q := 28) 18 rfl ?_
  obtain ⟨c7, h⟩ := h
  refine n_iast (q := 29) 19 rfl c2 c3 c7 ?_
  refine PW.nameE (fun E4 eE4 => ?_)
  replace h := h E4 eE4
  refine s_iconst (q := 30) 20 rfl ?_
  refine s_istore_n (q := 31) (lv' := [(1, (0, 0)), (0, (2, x0))]) 21 rfl rfl ?_
  refine PW.pick [1, 0] rfl ?_
  exact h
theorem vX6_isBarred_31 {l : Launch} {G : pG} {bg : Nat × Nat} {n : Nat} {K : Int → Nat × Nat} {F E : Int → Int → Int} {Q : Option pV → pM → Prop} (x0 x1 : Int) (h : (K x0).1 = 6 ∧ ((F x0 3 = -1 → Q (some (0, 0)) (n, K, F, E)) ∧ (¬ (F x0 3 = -1) → (K (F x0 3)).1 = 9 ∧ ((F (F x0 3) 2 ≤ x1 → Q (some (0, 0)) (n, K, F, E)) ∧ (¬ (F (F x0 3) 2 ≤ x1) → (-2147483648 ≤ x1 * 6 ∧ x1 * 6 < 2147483648) ∧ (-2147483648 ≤ (x1 * 6) + 0 ∧ (x1 * 6) + 0 < 2147483648) ∧ (K (F (F x0 3) 0)).1 = 20 ∧ ((0 : Int) ≤ (x1 * 6) + 0 ∧ (x1 * 6) + 0 < ((K (F (F x0 3) 0)).2 : Int)) ∧ ((¬ (E (F (F x0 3) 0) ((x1 * 6) + 0)) = 1 → (-2147483648 ≤ x1 + 1 ∧ x1 + 1 < 2147483648) ∧ PW l G 3 mX6_isBarred bg 31 [(0, (2, x0)), (1, (0, x1 + 1))] [] (n, K, F, E) Q) ∧ ((E (F (F x0 3) 0) ((x1 * 6) + 0)) = 1 → (K (F x0 0)).1 = 4 ∧ PC l G 2 mX4_isSo (0, 0) [(2, F x0 0), (2, F x0 3), (0, x1), (2, F x0 1)] (n, K, F, E) (fun r μ => PW l G 3 mX6_isBarred bg 78 [(0, (2, x0)), (1, (0, x1))] (r.toList ++ []) μ Q)))))))) : PW l G 3 mX6_isBarred bg 31 [(0, (2, x0)), (1, (0, x1))] [] (n, K, F, E) Q := by
  refine s_aload_n (q := 32) 22 0 rfl rfl ?_
  obtain ⟨c1, h⟩ := h
  refine n_getf (q := 35) (jj := 3) 23 6 3 rfl kX6_29 c1 ?_
  refine s_ifnull (q := 38) (tgt := 89) 24 rfl rfl (fun hb => ?_) (fun hb => ?_)
  · replace h := h.1 hb
    refine s_iconst (q := 90) 50 rfl ?_
    exact s_zret 51 rfl rfl (by decide) h
  · replace h := h.2 hb
    refine s_iload_n (q := 39) 25 1 rfl rfl ?_
    refine s_aload_n (q := 40) 26 0 rfl rfl ?_
    refine n_getf (q := 43) (jj := 3) 27 6 3 rfl kX6_29 c1 ?_
    obtain ⟨c2, h⟩ := h
    refine n_getf (q := 46) (jj := 2) 28 9 2 rfl kX6_89 c2 ?_
    refine s_icmp_ge (q := 49) (tgt := 89) 29 rfl rfl (fun hb => ?_) (fun hb => ?_)
    · skip
      have b3 := hb
      replace h := h.1 hb
      refine s_iconst (q := 90) 50 rfl ?_
      exact s_zret 51 rfl rfl (by decide) h
    · skip
      have b3 := hb
      replace h := h.2 hb
      refine s_aload_n (q := 50) 30 0 rfl rfl ?_
      refine n_getf (q := 53) (jj := 3) 31 6 3 rfl kX6_29 c1 ?_
      refine s_iload_n (q := 54) 32 1 rfl rfl ?_
      refine s_iconst (q := 55) 33 rfl ?_
      refine n_callV (N := mX9_part) (as := [(0, x1), (0, 0)]) (st := []) (q := 58) (d' := 0) 34 rfl uX9_part kX6_94 rfl c2 ?_
      show PW l G 0 mX9_part (0, 0) 0 [(0, (2, F x0 3)), (1, (0, x1)), (2, (0, 0))] [] (n, K, F, E) _
      refine s_aload_n (q := 1) 0 0 rfl rfl ?_
      refine n_getf (q := 4) (jj := 0) 1 9 0 rfl kX9_11 c2 ?_
      refine s_iload_n (q := 5) 2 1 rfl rfl ?_
      refine s_bipush (q := 7) 3 rfl ?_
      obtain ⟨c4, h⟩ := h
      refine n_imul (q := 8) 4 rfl c4 ?_
      refine s_iload_n (q := 9) 5 2 rfl rfl ?_
      obtain ⟨c5, h⟩ := h
      refine n_iadd (q := 10) 6 rfl c5 ?_
      obtain ⟨c6, h⟩ := h
      obtain ⟨c7, h⟩ := h
      refine n_iald (q := 11) 7 rfl c6 c7 ?_
      refine s_iret 8 rfl rfl ?_
      show PW l G 3 mX6_isBarred bg 58 [(0, (2, x0)), (1, (0, x1))] [(0, E (F (F x0 3) 0) ((x1 * 6) + 0))] (n, K, F, E) Q
      refine s_iconst (q := 59) 35 rfl ?_
      refine s_icmp_ne (q := 62) (tgt := 83) 36 rfl rfl (fun hb => ?_) (fun hb => ?_)
      · skip
        have b8 := hb
        replace h := h.1 hb
        obtain ⟨c9, h⟩ := h
        refine n_iinc (q := 86) (lv' := [(1, (0, x1 + 1)), (0, (2, x0))]) 48 1 rfl rfl c9 rfl ?_
        refine s_goto (tgt := 31) 49 rfl rfl ?_
        refine PW.pick [1, 0] rfl ?_
        exact h
      · have hb := Classical.not_not.mp hb
        have b8 := hb
        replace h := h.2 hb
        refine s_aload_n (q := 63) 37 0 rfl rfl ?_
        refine n_getf (q := 66) (jj := 0) 38 6 0 rfl kX6_12 c1 ?_
        refine s_aload_n (q := 67) 39 0 rfl rfl ?_
        refine n_getf (q := 70) (jj := 3) 40 6 3 rfl kX6_29 c1 ?_
        refine s_iload_n (q := 71) 41 1 rfl rfl ?_
        refine s_aload_n (q := 72) 42 0 rfl rfl ?_
        refine n_getf (q := 75) (jj := 1) 43 6 1 rfl kX6_18 c1 ?_
        obtain ⟨c10, h⟩ := h
        refine PW.pick [0, 1] rfl ?_
        exact n_callV (N := mX4_isSo) (as := [(2, F x0 3), (0, x1), (2, F x0 1)]) (st := []) (q := 78) (d' := 2) 44 rfl uX4_isSo kX6_95 rfl c10 h
theorem vX6_isBarred_78 {l : Launch} {G : pG} {bg : Nat × Nat} {n : Nat} {K : Int → Nat × Nat} {F E : Int → Int → Int} {Q : Option pV → pM → Prop} (x0 x1 s0 : Int) (h : ((s0 = 0 → (-2147483648 ≤ x1 + 1 ∧ x1 + 1 < 2147483648) ∧ PW l G 3 mX6_isBarred bg 31 [(0, (2, x0)), (1, (0, x1 + 1))] [] (n, K, F, E) Q) ∧ (¬ (s0 = 0) → Q (some (0, 1)) (n, K, F, E)))) : PW l G 3 mX6_isBarred bg 78 [(0, (2, x0)), (1, (0, x1))] [(0, s0)] (n, K, F, E) Q := by
  refine s_if_eq (q := 81) (tgt := 83) 45 rfl rfl (fun hb => ?_) (fun hb => ?_)
  · skip
    have b1 := hb
    replace h := h.1 hb
    obtain ⟨c2, h⟩ := h
    refine n_iinc (q := 86) (lv' := [(1, (0, x1 + 1)), (0, (2, x0))]) 48 1 rfl rfl c2 rfl ?_
    refine s_goto (tgt := 31) 49 rfl rfl ?_
    refine PW.pick [1, 0] rfl ?_
    exact h
  · skip
    have b1 := hb
    replace h := h.2 hb
    refine s_iconst (q := 82) 46 rfl ?_
    exact s_zret 47 rfl rfl (by decide) h
theorem vX6_pass_0 {l : Launch} {G : pG} {d e : Nat} (hd : e + 1 ≤ d) (hB : 12 ≤ d) {bg : Nat × Nat} {n : Nat} {K : Int → Nat × Nat} {F E : Int → Int → Int} {Q : Option pV → pM → Prop} (x0 x1 x2 : Int) (h : (K x0).1 = 6 ∧ (K (F x0 2)).1 = 0 ∧ (K (F (F x0 2) 0)).1 = 20 ∧ ((0 : Int) ≤ 0 ∧ 0 < ((K (F (F x0 2) 0)).2 : Int)) ∧ ((x2 < E (F (F x0 2) 0) 0 → PC l G 2 mX6_chosen (0, 0) [(2, x0), (0, x1)] (n, K, F, E) (fun r μ => PW l G d mX6_pass bg 21 [(0, (2, x0)), (1, (0, x1)), (2, (0, x2))] (r.toList ++ []) μ Q)) ∧ (¬ (x2 < E (F (F x0 2) 0) 0) → PC l G 0 mX6_addResult (0, 0) [(2, x0)] (n, K, F, E) (fun r μ => PW l G d mX6_pass bg 15 [] (r.toList ++ []) μ Q)))) : PW l G d mX6_pass bg 0 [(0, (2, x0)), (1, (0, x1)), (2, (0, x2))] [] (n, K, F, E) Q := by
  refine s_iload_n (q := 1) 0 2 rfl rfl ?_
  refine s_aload_n (q := 2) 1 0 rfl rfl ?_
  obtain ⟨c1, h⟩ := h
  refine n_getf (q := 5) (jj := 2) 2 6 2 rfl kX6_25 c1 ?_
  obtain ⟨c2, h⟩ := h
  refine n_callV (N := mX0_operators) (as := []) (st := [(0, x2)]) (q := 8) (d' := 0) 3 rfl uX0_operators kX6_82 rfl c2 ?_ (hd := by omega)
  show PW l G 0 mX0_operators (0, 0) 0 [(0, (2, F x0 2))] [] (n, K, F, E) _
  refine s_aload_n (q := 1) 0 0 rfl rfl ?_
  refine n_getf (q := 4) (jj := 0) 1 0 0 rfl kX0_11 c2 ?_
  refine s_iconst (q := 5) 2 rfl ?_
  obtain ⟨c3, h⟩ := h
  obtain ⟨c4, h⟩ := h
  refine n_iald (q := 6) 3 rfl c3 c4 ?_
  refine s_iret 4 rfl rfl ?_
  show PW l G d mX6_pass bg 8 [(0, (2, x0)), (1, (0, x1)), (2, (0, x2))] [(0, E (F (F x0 2) 0) 0), (0, x2)] (n, K, F, E) Q
  refine s_icmp_lt (q := 11) (tgt := 16) 4 rfl rfl (fun hb => ?_) (fun hb => ?_)
  · skip
    have b5 := hb
    replace h := h.1 hb
    refine s_aload_n (q := 17) 8 0 rfl rfl ?_
    refine s_iload_n (q := 18) 9 1 rfl rfl ?_
    refine PW.pick [0, 1, 2] rfl ?_
    exact n_callV (N := mX6_chosen) (as := [(0, x1)]) (st := []) (q := 21) (d' := 2) 10 rfl uX6_chosen kX6_102 rfl c1 h (hd := by omega)
  · skip
    have b5 := hb
    replace h := h.2 hb
    refine s_aload_n (q := 12) 5 0 rfl rfl ?_
    refine PW.pick [] rfl ?_
    exact n_callV (N := mX6_addResult) (as := []) (st := []) (q := 15) (d' := 0) 6 rfl uX6_addResult kX6_99 rfl c1 h (hd := by omega)
theorem vX6_pass_15 {l : Launch} {G : pG} {d e : Nat} (hd : e + 1 ≤ d) (hB : 12 ≤ d) {bg : Nat × Nat} {n : Nat} {K : Int → Nat × Nat} {F E : Int → Int → Int} {Q : Option pV → pM → Prop} (h : Q none (n, K, F, E)) : PW l G d mX6_pass bg 15 [] [] (n, K, F, E) Q := by
  exact s_vret 7 rfl rfl h
theorem vX6_pass_21 {l : Launch} {G : pG} {d e : Nat} (hd : e + 1 ≤ d) (hB : 12 ≤ d) {bg : Nat × Nat} {n : Nat} {K : Int → Nat × Nat} {F E : Int → Int → Int} {Q : Option pV → pM → Prop} (x0 x1 x2 s0 : Int) (h : ((¬ s0 = (-1) → (K x0).1 = 6 ∧ PC l G 1 mX6_relationToOpen (0, 0) [(2, x0), (0, s0)] (n, K, F, E) (fun r μ => PW l G d mX6_pass bg 33 [(0, (2, x0)), (1, (0, x1)), (2, (0, x2)), (3, (0, s0))] (r.toList ++ []) μ Q)) ∧ (s0 = (-1) → Q none (n, K, F, E)))) : PW l G d mX6_pass bg 21 [(0, (2, x0)), (1, (0, x1)), (2, (0, x2))] [(0, s0)] (n, K, F, E) Q := by
  refine s_istore_n (q := 22) (lv' := [(3, (0, s0)), (0, (2, x0)), (1, (0, x1)), (2, (0, x2))]) 11 rfl rfl ?_
  refine s_iload_n (q := 23) 12 0 rfl rfl ?_
  refine s_iconst (q := 24) 13 rfl ?_
  refine s_icmp_ne (q := 27) (tgt := 28) 14 rfl rfl (fun hb => ?_) (fun hb => ?_)
  · skip
    have b1 := hb
    replace h := h.1 hb
    refine s_aload_n (q := 29) 16 1 rfl rfl ?_
    refine s_iload_n (q := 30) 17 0 rfl rfl ?_
    obtain ⟨c2, h⟩ := h
    refine PW.pick [1, 2, 3, 0] rfl ?_
    exact n_callV (N := mX6_relationToOpen) (as := [(0, s0)]) (st := []) (q := 33) (d' := 1) 18 rfl uX6_relationToOpen kX6_106 rfl c2 h (hd := by omega)
  · have hb := Classical.not_not.mp hb
    have b1 := hb
    replace h := h.2 hb
    exact s_vret 15 rfl rfl h
theorem vX6_pass_33 {l : Launch} {G : pG} {d e : Nat} (hd : e + 1 ≤ d) (hB : 12 ≤ d) {bg : Nat × Nat} {n : Nat} {K : Int → Nat × Nat} {F E : Int → Int → Int} {Q : Option pV → pM → Prop} (x0 x1 x2 x3 s0 : Int) (h : ((¬ s0 = (-1) → (K x0).1 = 6 ∧ PC l G 2 mX6_looksAt (0, 0) [(2, x0), (0, x3), (0, s0)] (n, K, F, E) (fun r μ => PW l G d mX6_pass bg 54 [(0, (2, x0)), (1, (0, x1)), (2, (0, x2)), (3, (0, x3)), (4, (0, s0))] (r.toList ++ [(0, x3), (2, x0)]) μ Q)) ∧ (s0 = (-1) → (K x0).1 = 6 ∧ PC l G 3 mX6_costOf (0, 0) [(2, x0), (0, x3), (0, 1), (0, x2)] (n, K, F, E) (fun r μ => PW l G d mX6_pass bg 58 [(0, (2, x0)), (1, (0, x1)), (2, (0, x2)), (3, (0, x3)), (4, (0, s0))] (r.toList ++ []) μ Q)))) : PW l G d mX6_pass bg 33 [(0, (2, x0)), (1, (0, x1)), (2, (0, x2)), (3, (0, x3))] [(0, s0)] (n, K, F, E) Q := by
  refine s_istore (q := 35) (lv' := [(4, (0, s0)), (0, (2, x0)), (1, (0, x1)), (2, (0, x2)), (3, (0, x3))]) 19 rfl rfl ?_
  refine s_aload_n (q := 36) 20 1 rfl rfl ?_
  refine s_iload_n (q := 37) 21 4 rfl rfl ?_
  refine s_iload (q := 39) 22 0 rfl rfl ?_
  refine s_iconst (q := 40) 23 rfl ?_
  refine s_icmp_ne (q := 43) (tgt := 47) 24 rfl rfl (fun hb => ?_) (fun hb => ?_)
  · skip
    have b1 := hb
    replace h := h.1 hb
    refine s_aload_n (q := 48) 27 1 rfl rfl ?_
    refine s_iload_n (q := 49) 28 4 rfl rfl ?_
    refine s_iload (q := 51) 29 0 rfl rfl ?_
    obtain ⟨c2, h⟩ := h
    refine PW.pick [1, 2, 3, 4, 0] rfl ?_
    exact n_callV (N := mX6_looksAt) (as := [(0, x3), (0, s0)]) (st := [(0, x3), (2, x0)]) (q := 54) (d' := 2) 30 rfl uX6_looksAt kX6_109 rfl c2 h (hd := by omega)
  · have hb := Classical.not_not.mp hb
    have b1 := hb
    replace h := h.2 hb
    refine s_iconst (q := 44) 25 rfl ?_
    refine s_goto (tgt := 54) 26 rfl rfl ?_
    refine s_iload_n (q := 55) 31 3 rfl rfl ?_
    obtain ⟨c3, h⟩ := h
    refine PW.pick [1, 2, 3, 4, 0] rfl ?_
    exact n_callV (N := mX6_costOf) (as := [(0, x3), (0, 1), (0, x2)]) (st := []) (q := 58) (d' := 3) 32 rfl uX6_costOf kX6_112 rfl c3 h (hd := by omega)
theorem vX6_pass_54 {l : Launch} {G : pG} {d e : Nat} (hd : e + 1 ≤ d) (hB : 12 ≤ d) {bg : Nat × Nat} {n : Nat} {K : Int → Nat × Nat} {F E : Int → Int → Int} {Q : Option pV → pM → Prop} (x0 x1 x2 x3 x4 s0 s1 s2 : Int) (h : (K s2).1 = 6 ∧ PC l G 3 mX6_costOf (0, 0) [(2, s2), (0, s1), (0, s0), (0, x2)] (n, K, F, E) (fun r μ => PW l G d mX6_pass bg 58 [(0, (2, x0)), (1, (0, x1)), (2, (0, x2)), (3, (0, x3)), (4, (0, x4))] (r.toList ++ []) μ Q)) : PW l G d mX6_pass bg 54 [(0, (2, x0)), (1, (0, x1)), (2, (0, x2)), (3, (0, x3)), (4, (0, x4))] [(0, s0), (0, s1), (2, s2)] (n, K, F, E) Q := by
  refine s_iload_n (q := 55) 31 2 rfl rfl ?_
  obtain ⟨c1, h⟩ := h
  refine PW.pick [0, 1, 2, 3, 4] rfl ?_
  exact n_callV (N := mX6_costOf) (as := [(0, s1), (0, s0), (0, x2)]) (st := []) (q := 58) (d' := 3) 32 rfl uX6_costOf kX6_112 rfl c1 h (hd := by omega)
theorem vX6_pass_58 {l : Launch} {G : pG} {d e : Nat} (hd : e + 1 ≤ d) (hB : 12 ≤ d) {bg : Nat × Nat} {n : Nat} {K : Int → Nat × Nat} {F E : Int → Int → Int} {Q : Option pV → pM → Prop} (x0 x1 x2 x3 x4 s0 : Int) (h : (K x0).1 = 6 ∧ (-2147483648 ≤ (F x0 15) + s0 ∧ (F x0 15) + s0 < 2147483648) ∧ (((F x0 15) + s0 ≤ F x0 5 → (∀ F1, F1 = pUp F x0 15 ((F x0 15) + s0) → (K (F x0 9)).1 = 20 ∧ ((0 : Int) ≤ x3 ∧ x3 < ((K (F x0 9)).2 : Int)) ∧ (0 : Int) ≤ F x0 9 ∧ (∀ E2, E2 = pUp E (F x0 9) x3 (w32 ((E (F x0 9) x3) + 1)) → ((x4 = (-1) → PC l G 1 mX6_isSo (0, 0) [(2, x0), (0, x3)] (n, K, F1, E2) (fun r μ => PW l G d mX6_pass bg 124 [(0, (2, x0)), (1, (0, x1)), (2, (0, x2)), (3, (0, x3))] (r.toList ++ []) μ Q)) ∧ (¬ (x4 = (-1)) → PC l G e mX6_passAll (0, 0) [(2, x0), (0, x3), (0, x4), (0, x1), (0, x2)] (n, K, F1, E2) (fun r μ => PW l G d mX6_pass bg 116 [] (r.toList ++ []) μ Q)))))) ∧ (¬ ((F x0 15) + s0 ≤ F x0 5) → (∀ F3, F3 = pUp F x0 16 1 → Q none (n, K, F3, E))))) : PW l G d mX6_pass bg 58 [(0, (2, x0)), (1, (0, x1)), (2, (0, x2)), (3, (0, x3)), (4, (0, x4))] [(0, s0)] (n, K, F, E) Q := by
  refine s_istore (q := 60) (lv' := [(5, (0, s0)), (0, (2, x0)), (1, (0, x1)), (2, (0, x2)), (3, (0, x3)), (4, (0, x4))]) 33 rfl rfl ?_
  refine s_aload_n (q := 61) 34 1 rfl rfl ?_
  obtain ⟨c1, h⟩ := h
  refine n_getf (q := 64) (jj := 15) 35 6 15 rfl kX6_67 c1 ?_
  refine s_iload (q := 66) 36 0 rfl rfl ?_
  obtain ⟨c2, h⟩ := h
  refine n_iadd (q := 67) 37 rfl c2 ?_
  refine s_aload_n (q := 68) 38 1 rfl rfl ?_
  refine n_getf (q := 71) (jj := 5) 39 6 5 rfl kX6_36 c1 ?_
  refine s_icmp_le (q := 74) (tgt := 80) 40 rfl rfl (fun hb => ?_) (fun hb => ?_)
  · skip
    have b3 := hb
    replace h := h.1 hb
    refine s_aload_n (q := 81) 45 1 rfl rfl ?_
    refine s_dup (q := 82) 46 rfl ?_
    refine n_getf (q := 85) (jj := 15) 47 6 15 rfl kX6_67 c1 ?_
    refine s_iload (q := 87) 48 0 rfl rfl ?_
    refine n_iadd (q := 88) 49 rfl c2 ?_
    refine n_putf (q := 91) (jj := 15) 50 6 15 rfl kX6_67 c1 (Or.inl rfl) ?_
    refine PW.nameF (fun F1 eF1 => ?_)
    replace h := h F1 eF1
    refine s_aload_n (q := 92) 51 1 rfl rfl ?_
    refine n_getf (q := 95) (jj := 9) 52 6 9 rfl kX6_49 c1 ?_
    refine PW.top (b := F x0 9) (by exact (congrFun (congrFun eF1 _) _).trans (pUp_k (by decide))) ?_
    refine s_iload_n (q := 96) 53 4 rfl rfl ?_
    refine s_dup2 (q := 97) 54 rfl ?_
    obtain ⟨c4, h⟩ := h
    obtain ⟨c5, h⟩ := h
    refine n_iald (q := 98) 55 rfl c4 c5 ?_
    refine s_iconst (q := 99) 56 rfl ?_
    refine s_iadd (q := 100) 57 rfl ?_
    obtain ⟨c6, h⟩ := h
    refine n_iast (q := 101) 58 rfl c6 c4 c5 ?_
    refine PW.nameE (fun E2 eE2 => ?_)
    replace h := h E2 eE2
    refine s_iload (q := 103) 59 5 rfl rfl ?_
    refine s_iconst (q := 104) 60 rfl ?_
    refine s_icmp_eq (q := 107) (tgt := 119) 61 rfl rfl (fun hb => ?_) (fun hb => ?_)
    · skip
      have b7 := hb
      replace h := h.1 hb
      refine s_aload_n (q := 120) 69 1 rfl rfl ?_
      refine s_iload_n (q := 121) 70 4 rfl rfl ?_
      refine PW.pick [1, 2, 3, 4] rfl ?_
      exact n_callV (N := mX6_isSo) (as := [(0, x3)]) (st := []) (q := 124) (d' := 1) 71 rfl uX6_isSo kX6_119 rfl c1 h (hd := by omega)
    · skip
      have b7 := hb
      replace h := h.2 hb
      refine s_aload_n (q := 108) 62 1 rfl rfl ?_
      refine s_iload_n (q := 109) 63 4 rfl rfl ?_
      refine s_iload (q := 111) 64 5 rfl rfl ?_
      refine s_iload_n (q := 112) 65 2 rfl rfl ?_
      refine s_iload_n (q := 113) 66 3 rfl rfl ?_
      refine PW.pick [] rfl ?_
      exact n_callV (N := mX6_passAll) (as := [(0, x3), (0, x4), (0, x1), (0, x2)]) (st := []) (q := 116) (d' := e) 67 rfl uX6_passAll kX6_116 rfl c1 h (hd := by omega)
  · skip
    have b3 := hb
    replace h := h.2 hb
    refine s_aload_n (q := 75) 41 1 rfl rfl ?_
    refine s_iconst (q := 76) 42 rfl ?_
    refine n_putf (q := 79) (jj := 16) 43 6 16 rfl kX6_70 c1 (Or.inr (Or.inr (Or.inl ⟨rfl, (by decide)⟩))) ?_
    refine PW.nameF (fun F3 eF3 => ?_)
    replace h := h F3 eF3
    exact s_vret 44 rfl rfl h
theorem vX6_pass_116 {l : Launch} {G : pG} {d e : Nat} (hd : e + 1 ≤ d) (hB : 12 ≤ d) {bg : Nat × Nat} {n : Nat} {K : Int → Nat × Nat} {F E : Int → Int → Int} {Q : Option pV → pM → Prop} (h : Q none (n, K, F, E)) : PW l G d mX6_pass bg 116 [] [] (n, K, F, E) Q := by
  refine s_goto (tgt := 149) 68 rfl rfl ?_
  exact s_vret 91 rfl rfl h
theorem vX6_pass_124 {l : Launch} {G : pG} {d e : Nat} (hd : e + 1 ≤ d) (hB : 12 ≤ d) {bg : Nat × Nat} {n : Nat} {K : Int → Nat × Nat} {F E : Int → Int → Int} {Q : Option pV → pM → Prop} (x0 x1 x2 x3 s0 : Int) (h : ((s0 = 0 → Q none (n, K, F, E)) ∧ (¬ (s0 = 0) → (K x0).1 = 6 ∧ (K (F x0 9)).1 = 20 ∧ ((0 : Int) ≤ x3 ∧ x3 < ((K (F x0 9)).2 : Int)) ∧ (0 : Int) ≤ F x0 9 ∧ (∀ E1, E1 = pUp E (F x0 9) x3 (w32 ((E (F x0 9) x3) - 1)) → (-2147483648 ≤ x2 + 1 ∧ x2 + 1 < 2147483648) ∧ PC l G e mX6_pass (0, 0) [(2, x0), (0, bOr x1 (bShl 1 x3)), (0, x2 + 1)] (n, K, F, E1) (fun r μ => PW l G d mX6_pass bg 149 [] (r.toList ++ []) μ Q))))) : PW l G d mX6_pass bg 124 [(0, (2, x0)), (1, (0, x1)), (2, (0, x2)), (3, (0, x3))] [(0, s0)] (n, K, F, E) Q := by
  refine s_if_eq (q := 127) (tgt := 149) 72 rfl rfl (fun hb => ?_) (fun hb => ?_)
  · skip
    have b1 := hb
    replace h := h.1 hb
    exact s_vret 91 rfl rfl h
  · skip
    have b1 := hb
    replace h := h.2 hb
    refine s_aload_n (q := 128) 73 0 rfl rfl ?_
    obtain ⟨c2, h⟩ := h
    refine n_getf (q := 131) (jj := 9) 74 6 9 rfl kX6_49 c2 ?_
    refine s_iload_n (q := 132) 75 3 rfl rfl ?_
    refine s_dup2 (q := 133) 76 rfl ?_
    obtain ⟨c3, h⟩ := h
    obtain ⟨c4, h⟩ := h
    refine n_iald (q := 134) 77 rfl c3 c4 ?_
    refine s_iconst (q := 135) 78 rfl ?_
    refine s_isub (q := 136) 79 rfl ?_
    obtain ⟨c5, h⟩ := h
    refine n_iast (q := 137) 80 rfl c5 c3 c4 ?_
    refine PW.nameE (fun E1 eE1 => ?_)
    replace h := h E1 eE1
    refine s_aload_n (q := 138) 81 0 rfl rfl ?_
    refine s_iload_n (q := 139) 82 1 rfl rfl ?_
    refine s_iconst (q := 140) 83 rfl ?_
    refine s_iload_n (q := 141) 84 3 rfl rfl ?_
    refine s_ishl (q := 142) 85 rfl ?_
    refine s_ior (q := 143) 86 rfl ?_
    refine s_iload_n (q := 144) 87 2 rfl rfl ?_
    refine s_iconst (q := 145) 88 rfl ?_
    obtain ⟨c6, h⟩ := h
    refine n_iadd (q := 146) 89 rfl c6 ?_
    refine PW.pick [] rfl ?_
    exact n_callV (N := mX6_pass) (as := [(0, bOr x1 (bShl 1 x3)), (0, x2 + 1)]) (st := []) (q := 149) (d' := e) 90 rfl uX6_pass kX6_122 rfl c2 h (hd := by omega)
theorem vX6_pass_149 {l : Launch} {G : pG} {d e : Nat} (hd : e + 1 ≤ d) (hB : 12 ≤ d) {bg : Nat × Nat} {n : Nat} {K : Int → Nat × Nat} {F E : Int → Int → Int} {Q : Option pV → pM → Prop} (h : Q none (n, K, F, E)) : PW l G d mX6_pass bg 149 [] [] (n, K, F, E) Q := by
  exact s_vret 91 rfl rfl h
theorem vX6_passAll_0 {l : Launch} {G : pG} {d e : Nat} (hd : e + 1 ≤ d) (hB : 12 ≤ d) {bg : Nat × Nat} {n : Nat} {K : Int → Nat × Nat} {F E : Int → Int → Int} {Q : Option pV → pM → Prop} (x0 x1 x2 x3 x4 : Int) (h : (K x0).1 = 6 ∧ PC l G 1 mX6_fieldIn (0, 0) [(2, x0), (0, x1), (0, x2)] (n, K, F, E) (fun r μ => PW l G d mX6_passAll bg 6 [(0, (2, x0)), (1, (0, x1)), (2, (0, x2)), (3, (0, x3)), (4, (0, x4))] (r.toList ++ []) μ Q)) : PW l G d mX6_passAll bg 0 [(0, (2, x0)), (1, (0, x1)), (2, (0, x2)), (3, (0, x3)), (4, (0, x4))] [] (n, K, F, E) Q := by
  refine s_aload_n (q := 1) 0 0 rfl rfl ?_
  refine s_iload_n (q := 2) 1 1 rfl rfl ?_
  refine s_iload_n (q := 3) 2 2 rfl rfl ?_
  obtain ⟨c1, h⟩ := h
  refine PW.pick [0, 1, 2, 3, 4] rfl ?_
  exact n_callV (N := mX6_fieldIn) (as := [(0, x1), (0, x2)]) (st := []) (q := 6) (d' := 1) 3 rfl uX6_fieldIn kX6_126 rfl c1 h (hd := by omega)
theorem vX6_passAll_6 {l : Launch} {G : pG} {d e : Nat} (hd : e + 1 ≤ d) (hB : 12 ≤ d) {bg : Nat × Nat} {n : Nat} {K : Int → Nat × Nat} {F E : Int → Int → Int} {Q : Option pV → pM → Prop} (x0 x1 x2 x3 x4 s0 : Int) (h : (K x0).1 = 6 ∧ PC l G 1 mX6_valueThere (0, 0) [(2, x0), (0, x1), (0, x2)] (n, K, F, E) (fun r μ => PW l G d mX6_passAll bg 14 [(0, (2, x0)), (1, (0, x1)), (2, (0, x2)), (3, (0, x3)), (4, (0, x4)), (5, (0, s0))] (r.toList ++ []) μ Q)) : PW l G d mX6_passAll bg 6 [(0, (2, x0)), (1, (0, x1)), (2, (0, x2)), (3, (0, x3)), (4, (0, x4))] [(0, s0)] (n, K, F, E) Q := by
  refine s_istore (q := 8) (lv' := [(5, (0, s0)), (0, (2, x0)), (1, (0, x1)), (2, (0, x2)), (3, (0, x3)), (4, (0, x4))]) 4 rfl rfl ?_
  refine s_aload_n (q := 9) 5 1 rfl rfl ?_
  refine s_iload_n (q := 10) 6 2 rfl rfl ?_
  refine s_iload_n (q := 11) 7 3 rfl rfl ?_
  obtain ⟨c1, h⟩ := h
  refine PW.pick [1, 2, 3, 4, 5, 0] rfl ?_
  exact n_callV (N := mX6_valueThere) (as := [(0, x1), (0, x2)]) (st := []) (q := 14) (d' := 1) 8 rfl uX6_valueThere kX6_129 rfl c1 h (hd := by omega)
theorem vX6_passAll_14 {l : Launch} {G : pG} {d e : Nat} (hd : e + 1 ≤ d) (hB : 12 ≤ d) {bg : Nat × Nat} {n : Nat} {K : Int → Nat × Nat} {F E : Int → Int → Int} {Q : Option pV → pM → Prop} (x0 x1 x2 x3 x4 x5 s0 : Int) (h : (K x0).1 = 6 ∧ (-2147483648 ≤ (F x0 6) + 1 ∧ (F x0 6) + 1 < 2147483648) ∧ (∀ F1, F1 = pUp F x0 6 ((F x0 6) + 1) → (∀ F2, F2 = pUp F1 x0 14 (max (F x0 14) ((F x0 6) + 1)) → PW l G d mX6_passAll bg 44 [(0, (2, x0)), (1, (0, x1)), (2, (0, x2)), (3, (0, x3)), (4, (0, x4)), (5, (0, x5)), (6, (0, s0)), (7, (0, 0))] [] (n, K, F2, E) Q))) : PW l G d mX6_passAll bg 14 [(0, (2, x0)), (1, (0, x1)), (2, (0, x2)), (3, (0, x3)), (4, (0, x4)), (5, (0, x5))] [(0, s0)] (n, K, F, E) Q := by
  refine s_istore (q := 16) (lv' := [(6, (0, s0)), (0, (2, x0)), (1, (0, x1)), (2, (0, x2)), (3, (0, x3)), (4, (0, x4)), (5, (0, x5))]) 9 rfl rfl ?_
  refine s_aload_n (q := 17) 10 1 rfl rfl ?_
  refine s_dup (q := 18) 11 rfl ?_
  obtain ⟨c1, h⟩ := h
  refine n_getf (q := 21) (jj := 6) 12 6 6 rfl kX6_40 c1 ?_
  refine s_iconst (q := 22) 13 rfl ?_
  obtain ⟨c2, h⟩ := h
  refine n_iadd (q := 23) 14 rfl c2 ?_
  refine n_putf (q := 26) (jj := 6) 15 6 6 rfl kX6_40 c1 (Or.inl rfl) ?_
  refine PW.nameF (fun F1 eF1 => ?_)
  replace h := h F1 eF1
  refine s_aload_n (q := 27) 16 1 rfl rfl ?_
  refine s_aload_n (q := 28) 17 1 rfl rfl ?_
  refine n_getf (q := 31) (jj := 14) 18 6 14 rfl kX6_64 c1 ?_
  refine PW.top (b := F x0 14) (by exact (congrFun (congrFun eF1 _) _).trans (pUp_k (by decide))) ?_
  refine s_aload_n (q := 32) 19 1 rfl rfl ?_
  refine n_getf (q := 35) (jj := 6) 20 6 6 rfl kX6_40 c1 ?_
  refine PW.top (b := (F x0 6) + 1) (by exact (congrFun (congrFun eF1 _) _).trans pUp_s) ?_
  refine s_imax (q := 38) 21 rfl kX6_132 ?_
  refine n_putf (q := 41) (jj := 14) 22 6 14 rfl kX6_64 c1 (Or.inl rfl) ?_
  refine PW.nameF (fun F2 eF2 => ?_)
  replace h := h F2 eF2
  refine s_iconst (q := 42) 23 rfl ?_
  refine s_istore (q := 44) (lv' := [(7, (0, 0)), (6, (0, s0)), (0, (2, x0)), (1, (0, x1)), (2, (0, x2)), (3, (0, x3)), (4, (0, x4)), (5, (0, x5))]) 24 rfl rfl ?_
  refine PW.pick [2, 3, 4, 5, 6, 7, 1, 0] rfl ?_
  exact h
theorem vX6_passAll_44 {l : Launch} {G : pG} {d e : Nat} (hd : e + 1 ≤ d) (hB : 12 ≤ d) {bg : Nat × Nat} {n : Nat} {K : Int → Nat × Nat} {F E : Int → Int → Int} {Q : Option pV → pM → Prop} (x0 x1 x2 x3 x4 x5 x6 x7 : Int) (h : (K x0).1 = 6 ∧ (K (F x0 2)).1 = 0 ∧ (-2147483648 ≤ 9 + x2 ∧ 9 + x2 < 2147483648) ∧ (K (F (F x0 2) 0)).1 = 20 ∧ ((0 : Int) ≤ 9 + x2 ∧ 9 + x2 < ((K (F (F x0 2) 0)).2 : Int)) ∧ ((E (F (F x0 2) 0) (9 + x2) ≤ x7 → (0 : Int) ≤ F x0 7 ∧ (K (F x0 7)).1 = 20 ∧ ((0 : Int) ≤ x2 ∧ x2 < ((K (F x0 7)).2 : Int)) ∧ (∀ E1, E1 = pUp E (F x0 7) x2 0 → (-2147483648 ≤ (F x0 6) - 1 ∧ (F x0 6) - 1 < 2147483648) ∧ (∀ F2, F2 = pUp F x0 6 ((F x0 6) - 1) → ((99 ≤ F x0 13 → (-2147483648 ≤ (F x0 13) + 1 ∧ (F x0 13) + 1 < 2147483648) ∧ (∀ F3, F3 = pUp F2 x0 13 ((F x0 13) + 1) → Q none (n, K, F3, E1))) ∧ (¬ (99 ≤ F x0 13) → (0 : Int) ≤ F x0 11 ∧ (K (F x0 11)).1 = 20 ∧ ((0 : Int) ≤ F x0 13 ∧ F x0 13 < ((K (F x0 11)).2 : Int)) ∧ (∀ E4, E4 = pUp E1 (F x0 11) (F x0 13) x2 → (-2147483648 ≤ (F x0 13) + 1 ∧ (F x0 13) + 1 < 2147483648) ∧ (∀ F5, F5 = pUp F2 x0 13 ((F x0 13) + 1) → Q none (n, K, F5, E4)))))))) ∧ (¬ (E (F (F x0 2) 0) (9 + x2) ≤ x7) → ((¬ (F x0 16) = 0 → (0 : Int) ≤ F x0 7 ∧ (K (F x0 7)).1 = 20 ∧ ((0 : Int) ≤ x2 ∧ x2 < ((K (F x0 7)).2 : Int)) ∧ (∀ E6, E6 = pUp E (F x0 7) x2 0 → (-2147483648 ≤ (F x0 6) - 1 ∧ (F x0 6) - 1 < 2147483648) ∧ (∀ F7, F7 = pUp F x0 6 ((F x0 6) - 1) → ((99 ≤ F x0 13 → (-2147483648 ≤ (F x0 13) + 1 ∧ (F x0 13) + 1 < 2147483648) ∧ (∀ F8, F8 = pUp F7 x0 13 ((F x0 13) + 1) → Q none (n, K, F8, E6))) ∧ (¬ (99 ≤ F x0 13) → (0 : Int) ≤ F x0 11 ∧ (K (F x0 11)).1 = 20 ∧ ((0 : Int) ≤ F x0 13 ∧ F x0 13 < ((K (F x0 11)).2 : Int)) ∧ (∀ E9, E9 = pUp E6 (F x0 11) (F x0 13) x2 → (-2147483648 ≤ (F x0 13) + 1 ∧ (F x0 13) + 1 < 2147483648) ∧ (∀ F10, F10 = pUp F7 x0 13 ((F x0 13) + 1) → Q none (n, K, F10, E9)))))))) ∧ ((F x0 16) = 0 → (-2147483648 ≤ x2 * 9 ∧ x2 * 9 < 2147483648) ∧ (-2147483648 ≤ (x2 * 9) + x7 ∧ (x2 * 9) + x7 < 2147483648) ∧ (-2147483648 ≤ ((x2 * 9) + x7) * 3 ∧ ((x2 * 9) + x7) * 3 < 2147483648) ∧ (-2147483648 ≤ 36 + (((x2 * 9) + x7) * 3) ∧ 36 + (((x2 * 9) + x7) * 3) < 2147483648) ∧ (-2147483648 ≤ (36 + (((x2 * 9) + x7) * 3)) + x5 ∧ (36 + (((x2 * 9) + x7) * 3)) + x5 < 2147483648) ∧ ((0 : Int) ≤ (36 + (((x2 * 9) + x7) * 3)) + x5 ∧ (36 + (((x2 * 9) + x7) * 3)) + x5 < ((K (F (F x0 2) 0)).2 : Int)) ∧ (∀ a11, a11 = E (F (F x0 2) 0) ((36 + (((x2 * 9) + x7) * 3)) + x5) → ((¬ a11 = x6 → (-2147483648 ≤ x7 + 1 ∧ x7 + 1 < 2147483648) ∧ PW l G d mX6_passAll bg 44 [(0, (2, x0)), (1, (0, x1)), (2, (0, x2)), (3, (0, x3)), (4, (0, x4)), (5, (0, x5)), (6, (0, x6)), (7, (0, x7 + 1))] [] (n, K, F, E) Q) ∧ (a11 = x6 → (-2147483648 ≤ (36 + (((x2 * 9) + x7) * 3)) + 0 ∧ (36 + (((x2 * 9) + x7) * 3)) + 0 < 2147483648) ∧ ((0 : Int) ≤ (36 + (((x2 * 9) + x7) * 3)) + 0 ∧ (36 + (((x2 * 9) + x7) * 3)) + 0 < ((K (F (F x0 2) 0)).2 : Int)) ∧ (∀ a12, a12 = E (F (F x0 2) 0) ((36 + (((x2 * 9) + x7) * 3)) + 0) → (-2147483648 ≤ (36 + (((x2 * 9) + x7) * 3)) + 1 ∧ (36 + (((x2 * 9) + x7) * 3)) + 1 < 2147483648) ∧ ((0 : Int) ≤ (36 + (((x2 * 9) + x7) * 3)) + 1 ∧ (36 + (((x2 * 9) + x7) * 3)) + 1 < ((K (F (F x0 2) 0)).2 : Int)) ∧ (∀ a13, a13 = E (F (F x0 2) 0) ((36 + (((x2 * 9) + x7) * 3)) + 1) → (-2147483648 ≤ (36 + (((x2 * 9) + x7) * 3)) + 2 ∧ (36 + (((x2 * 9) + x7) * 3)) + 2 < 2147483648) ∧ ((0 : Int) ≤ (36 + (((x2 * 9) + x7) * 3)) + 2 ∧ (36 + (((x2 * 9) + x7) * 3)) + 2 < ((K (F (F x0 2) 0)).2 : Int)) ∧ (∀ a14, a14 = E (F (F x0 2) 0) ((36 + (((x2 * 9) + x7) * 3)) + 2) → (-2147483648 ≤ x2 * 2 ∧ x2 * 2 < 2147483648) ∧ (0 : Int) ≤ F x0 8 ∧ (K (F x0 8)).1 = 20 ∧ ((0 : Int) ≤ x2 * 2 ∧ x2 * 2 < ((K (F x0 8)).2 : Int)) ∧ (∀ E15, E15 = pUp E (F x0 8) (x2 * 2) a12 → (-2147483648 ≤ (x2 * 2) + 1 ∧ (x2 * 2) + 1 < 2147483648) ∧ ((0 : Int) ≤ (x2 * 2) + 1 ∧ (x2 * 2) + 1 < ((K (F x0 8)).2 : Int)) ∧ (∀ E16, E16 = pUp E15 (F x0 8) ((x2 * 2) + 1) a13 → (0 : Int) ≤ F x0 7 ∧ (K (F x0 7)).1 = 20 ∧ ((0 : Int) ≤ x2 ∧ x2 < ((K (F x0 7)).2 : Int)) ∧ (∀ E17, E17 = pUp E16 (F x0 7) x2 a14 → (K (F x0 9)).1 = 20 ∧ ((0 : Int) ≤ x1 ∧ x1 < ((K (F x0 9)).2 : Int)) ∧ (0 : Int) ≤ F x0 9 ∧ (∀ E18, E18 = pUp E17 (F x0 9) x1 (w32 ((E17 (F x0 9) x1) - 1)) → (-2147483648 ≤ x4 + 1 ∧ x4 + 1 < 2147483648) ∧ PC l G e mX6_pass (0, 0) [(2, x0), (0, bOr x3 (bShl 1 x1)), (0, x4 + 1)] (n, K, F, E18) (fun r μ => PW l G d mX6_passAll bg 142 [(0, (2, x0)), (1, (0, x1)), (2, (0, x2)), (3, (0, x3)), (4, (0, x4)), (5, (0, x5)), (6, (0, x6)), (7, (0, x7))] (r.toList ++ []) μ Q)))))))))))))))) : PW l G d mX6_passAll bg 44 [(0, (2, x0)), (1, (0, x1)), (2, (0, x2)), (3, (0, x3)), (4, (0, x4)), (5, (0, x5)), (6, (0, x6)), (7, (0, x7))] [] (n, K, F, E) Q := by
  refine s_iload (q := 46) 25 7 rfl rfl ?_
  refine s_aload_n (q := 47) 26 0 rfl rfl ?_
  obtain ⟨c1, h⟩ := h
  refine n_getf (q := 50) (jj := 2) 27 6 2 rfl kX6_25 c1 ?_
  refine s_iload_n (q := 51) 28 2 rfl rfl ?_
  obtain ⟨c2, h⟩ := h
  refine n_callV (N := mX0_held) (as := [(0, x2)]) (st := [(0, x7)]) (q := 54) (d' := 0) 29 rfl uX0_held kX6_137 rfl c2 ?_ (hd := by omega)
  show PW l G 0 mX0_held (0, 0) 0 [(0, (2, F x0 2)), (1, (0, x2))] [] (n, K, F, E) _
  refine s_aload_n (q := 1) 0 0 rfl rfl ?_
  refine n_getf (q := 4) (jj := 0) 1 0 0 rfl kX0_11 c2 ?_
  refine s_bipush (q := 6) 2 rfl ?_
  refine s_iload_n (q := 7) 3 1 rfl rfl ?_
  obtain ⟨c3, h⟩ := h
  refine n_iadd (q := 8) 4 rfl c3 ?_
  obtain ⟨c4, h⟩ := h
  obtain ⟨c5, h⟩ := h
  refine n_iald (q := 9) 5 rfl c4 c5 ?_
  refine s_iret 6 rfl rfl ?_
  show PW l G d mX6_passAll bg 54 [(0, (2, x0)), (1, (0, x1)), (2, (0, x2)), (3, (0, x3)), (4, (0, x4)), (5, (0, x5)), (6, (0, x6)), (7, (0, x7))] [(0, E (F (F x0 2) 0) (9 + x2)), (0, x7)] (n, K, F, E) Q
  refine s_icmp_ge (q := 57) (tgt := 148) 30 rfl rfl (fun hb => ?_) (fun hb => ?_)
  · skip
    have b6 := hb
    replace h := h.1 hb
    refine s_aload_n (q := 149) 83 0 rfl rfl ?_
    refine n_getf (q := 152) (jj := 7) 84 6 7 rfl kX6_43 c1 ?_
    refine s_iload_n (q := 153) 85 2 rfl rfl ?_
    refine s_iconst (q := 154) 86 rfl ?_
    obtain ⟨c7, h⟩ := h
    obtain ⟨c8, h⟩ := h
    obtain ⟨c9, h⟩ := h
    refine n_iast (q := 155) 87 rfl c7 c8 c9 ?_
    refine PW.nameE (fun E1 eE1 => ?_)
    replace h := h E1 eE1
    refine s_aload_n (q := 156) 88 0 rfl rfl ?_
    refine s_dup (q := 157) 89 rfl ?_
    refine n_getf (q := 160) (jj := 6) 90 6 6 rfl kX6_40 c1 ?_
    refine s_iconst (q := 161) 91 rfl ?_
    obtain ⟨c10, h⟩ := h
    refine n_isub (q := 162) 92 rfl c10 ?_
    refine n_putf (q := 165) (jj := 6) 93 6 6 rfl kX6_40 c1 (Or.inl rfl) ?_
    refine PW.nameF (fun F2 eF2 => ?_)
    replace h := h F2 eF2
    refine s_aload_n (q := 166) 94 0 rfl rfl ?_
    refine n_getf (q := 169) (jj := 13) 95 6 13 rfl kX6_61 c1 ?_
    refine PW.top (b := F x0 13) (by exact (congrFun (congrFun eF2 _) _).trans (pUp_k (by decide))) ?_
    refine s_bipush (q := 171) 96 rfl ?_
    refine s_icmp_ge (q := 174) (tgt := 184) 97 rfl rfl (fun hb => ?_) (fun hb => ?_)
    · skip
      have b11 := hb
      replace h := h.1 hb
      refine s_aload_n (q := 185) 104 0 rfl rfl ?_
      refine s_dup (q := 186) 105 rfl ?_
      refine n_getf (q := 189) (jj := 13) 106 6 13 rfl kX6_61 c1 ?_
      refine PW.top (b := F x0 13) (by exact (congrFun (congrFun eF2 _) _).trans (pUp_k (by decide))) ?_
      refine s_iconst (q := 190) 107 rfl ?_
      obtain ⟨c12, h⟩ := h
      refine n_iadd (q := 191) 108 rfl c12 ?_
      refine n_putf (q := 194) (jj := 13) 109 6 13 rfl kX6_61 c1 (Or.inl rfl) ?_
      refine PW.nameF (fun F3 eF3 => ?_)
      replace h := h F3 eF3
      exact s_vret 110 rfl rfl h
    · skip
      have b11 := hb
      replace h := h.2 hb
      refine s_aload_n (q := 175) 98 0 rfl rfl ?_
      refine n_getf (q := 178) (jj := 11) 99 6 11 rfl kX6_55 c1 ?_
      refine PW.top (b := F x0 11) (by exact (congrFun (congrFun eF2 _) _).trans (pUp_k (by decide))) ?_
      refine s_aload_n (q := 179) 100 0 rfl rfl ?_
      refine n_getf (q := 182) (jj := 13) 101 6 13 rfl kX6_61 c1 ?_
      refine PW.top (b := F x0 13) (by exact (congrFun (congrFun eF2 _) _).trans (pUp_k (by decide))) ?_
      refine s_iload_n (q := 183) 102 2 rfl rfl ?_
      obtain ⟨c13, h⟩ := h
      obtain ⟨c14, h⟩ := h
      obtain ⟨c15, h⟩ := h
      refine n_iast (q := 184) 103 rfl c13 c14 c15 ?_
      refine PW.nameE (fun E4 eE4 => ?_)
      replace h := h E4 eE4
      refine s_aload_n (q := 185) 104 0 rfl rfl ?_
      refine s_dup (q := 186) 105 rfl ?_
      refine n_getf (q := 189) (jj := 13) 106 6 13 rfl kX6_61 c1 ?_
      refine PW.top (b := F x0 13) (by exact (congrFun (congrFun eF2 _) _).trans (pUp_k (by decide))) ?_
      refine s_iconst (q := 190) 107 rfl ?_
      obtain ⟨c16, h⟩ := h
      refine n_iadd (q := 191) 108 rfl c16 ?_
      refine n_putf (q := 194) (jj := 13) 109 6 13 rfl kX6_61 c1 (Or.inl rfl) ?_
      refine PW.nameF (fun F5 eF5 => ?_)
      replace h := h F5 eF5
      exact s_vret 110 rfl rfl h
  · skip
    have b6 := hb
    replace h := h.2 hb
    refine s_aload_n (q := 58) 31 0 rfl rfl ?_
    refine n_getf (q := 61) (jj := 16) 32 6 16 rfl kX6_70 c1 ?_
    refine s_if_ne (q := 64) (tgt := 148) 33 rfl rfl (fun hb => ?_) (fun hb => ?_)
    · skip
      have b17 := hb
      replace h := h.1 hb
      refine s_aload_n (q := 149) 83 0 rfl rfl ?_
      refine n_getf (q := 152) (jj := 7) 84 6 7 rfl kX6_43 c1 ?_
      refine s_iload_n (q := 153) 85 2 rfl rfl ?_
      refine s_iconst (q := 154) 86 rfl ?_
      obtain ⟨c18, h⟩ := h
      obtain ⟨c19, h⟩ := h
      obtain ⟨c20, h⟩ := h
      refine n_iast (q := 155) 87 rfl c18 c19 c20 ?_
      refine PW.nameE (fun E6 eE6 => ?_)
      replace h := h E6 eE6
      refine s_aload_n (q := 156) 88 0 rfl rfl ?_
      refine s_dup (q := 157) 89 rfl ?_
      refine n_getf (q := 160) (jj := 6) 90 6 6 rfl kX6_40 c1 ?_
      refine s_iconst (q := 161) 91 rfl ?_
      obtain ⟨c21, h⟩ := h
      refine n_isub (q := 162) 92 rfl c21 ?_
      refine n_putf (q := 165) (jj := 6) 93 6 6 rfl kX6_40 c1 (Or.inl rfl) ?_
      refine PW.nameF (fun F7 eF7 => ?_)
      replace h := h F7 eF7
      refine s_aload_n (q := 166) 94 0 rfl rfl ?_
      refine n_getf (q := 169) (jj := 13) 95 6 13 rfl kX6_61 c1 ?_
      refine PW.top (b := F x0 13) (by exact (congrFun (congrFun eF7 _) _).trans (pUp_k (by decide))) ?_
      refine s_bipush (q := 171) 96 rfl ?_
      refine s_icmp_ge (q := 174) (tgt := 184) 97 rfl rfl (fun hb => ?_) (fun hb => ?_)
      · skip
        have b22 := hb
        replace h := h.1 hb
        refine s_aload_n (q := 185) 104 0 rfl rfl ?_
        refine s_dup (q := 186) 105 rfl ?_
        refine n_getf (q := 189) (jj := 13) 106 6 13 rfl kX6_61 c1 ?_
        refine PW.top (b := F x0 13) (by exact (congrFun (congrFun eF7 _) _).trans (pUp_k (by decide))) ?_
        refine s_iconst (q := 190) 107 rfl ?_
        obtain ⟨c23, h⟩ := h
        refine n_iadd (q := 191) 108 rfl c23 ?_
        refine n_putf (q := 194) (jj := 13) 109 6 13 rfl kX6_61 c1 (Or.inl rfl) ?_
        refine PW.nameF (fun F8 eF8 => ?_)
        replace h := h F8 eF8
        exact s_vret 110 rfl rfl h
      · skip
        have b22 := hb
        replace h := h.2 hb
        refine s_aload_n (q := 175) 98 0 rfl rfl ?_
        refine n_getf (q := 178) (jj := 11) 99 6 11 rfl kX6_55 c1 ?_
        refine PW.top (b := F x0 11) (by exact (congrFun (congrFun eF7 _) _).trans (pUp_k (by decide))) ?_
        refine s_aload_n (q := 179) 100 0 rfl rfl ?_
        refine n_getf (q := 182) (jj := 13) 101 6 13 rfl kX6_61 c1 ?_
        refine PW.top (b := F x0 13) (by exact (congrFun (congrFun eF7 _) _).trans (pUp_k (by decide))) ?_
        refine s_iload_n (q := 183) 102 2 rfl rfl ?_
        obtain ⟨c24, h⟩ := h
        obtain ⟨c25, h⟩ := h
        obtain ⟨c26, h⟩ := h
        refine n_iast (q := 184) 103 rfl c24 c25 c26 ?_
        refine PW.nameE (fun E9 eE9 => ?_)
        replace h := h E9 eE9
        refine s_aload_n (q := 185) 104 0 rfl rfl ?_
        refine s_dup (q := 186) 105 rfl ?_
        refine n_getf (q := 189) (jj := 13) 106 6 13 rfl kX6_61 c1 ?_
        refine PW.top (b := F x0 13) (by exact (congrFun (congrFun eF7 _) _).trans (pUp_k (by decide))) ?_
        refine s_iconst (q := 190) 107 rfl ?_
        obtain ⟨c27, h⟩ := h
        refine n_iadd (q := 191) 108 rfl c27 ?_
        refine n_putf (q := 194) (jj := 13) 109 6 13 rfl kX6_61 c1 (Or.inl rfl) ?_
        refine PW.nameF (fun F10 eF10 => ?_)
        replace h := h F10 eF10
        exact s_vret 110 rfl rfl h
    · have hb := Classical.not_not.mp hb
      have b17 := hb
      replace h := h.2 hb
      refine s_aload_n (q := 65) 34 0 rfl rfl ?_
      refine n_getf (q := 68) (jj := 2) 35 6 2 rfl kX6_25 c1 ?_
      refine s_iload_n (q := 69) 36 2 rfl rfl ?_
      refine s_iload (q := 71) 37 7 rfl rfl ?_
      refine s_iload (q := 73) 38 5 rfl rfl ?_
      refine n_callV (N := mX0_cell) (as := [(0, x2), (0, x7), (0, x5)]) (st := []) (q := 76) (d' := 0) 39 rfl uX0_cell kX6_140 rfl c2 ?_ (hd := by omega)
      show PW l G 0 mX0_cell (0, 0) 0 [(0, (2, F x0 2)), (1, (0, x2)), (2, (0, x7)), (3, (0, x5))] [] (n, K, F, E) _
      refine s_aload_n (q := 1) 0 0 rfl rfl ?_
      refine n_getf (q := 4) (jj := 0) 1 0 0 rfl kX0_11 c2 ?_
      refine s_bipush (q := 6) 2 rfl ?_
      refine s_iload_n (q := 7) 3 1 rfl rfl ?_
      refine s_bipush (q := 9) 4 rfl ?_
      obtain ⟨c28, h⟩ := h
      refine n_imul (q := 10) 5 rfl c28 ?_
      refine s_iload_n (q := 11) 6 2 rfl rfl ?_
      obtain ⟨c29, h⟩ := h
      refine n_iadd (q := 12) 7 rfl c29 ?_
      refine s_iconst (q := 13) 8 rfl ?_
      obtain ⟨c30, h⟩ := h
      refine n_imul (q := 14) 9 rfl c30 ?_
      obtain ⟨c31, h⟩ := h
      refine n_iadd (q := 15) 10 rfl c31 ?_
      refine s_iload_n (q := 16) 11 3 rfl rfl ?_
      obtain ⟨c32, h⟩ := h
      refine n_iadd (q := 17) 12 rfl c32 ?_
      obtain ⟨c33, h⟩ := h
      refine n_iald (q := 18) 13 rfl c4 c33 ?_
      refine PW.name (fun a11 ea11 => ?_)
      replace h := h a11 ea11
      refine s_iret 14 rfl rfl ?_
      show PW l G d mX6_passAll bg 76 [(0, (2, x0)), (1, (0, x1)), (2, (0, x2)), (3, (0, x3)), (4, (0, x4)), (5, (0, x5)), (6, (0, x6)), (7, (0, x7))] [(0, a11)] (n, K, F, E) Q
      refine s_iload (q := 78) 40 6 rfl rfl ?_
      refine s_icmp_ne (q := 81) (tgt := 142) 41 rfl rfl (fun hb => ?_) (fun hb => ?_)
      · skip
        have b34 := hb
        replace h := h.1 hb
        obtain ⟨c35, h⟩ := h
        refine n_iinc (q := 145) (lv' := [(7, (0, x7 + 1)), (0, (2, x0)), (1, (0, x1)), (2, (0, x2)), (3, (0, x3)), (4, (0, x4)), (5, (0, x5)), (6, (0, x6))]) 81 7 rfl rfl c35 rfl ?_
        refine s_goto (tgt := 44) 82 rfl rfl ?_
        refine PW.pick [1, 2, 3, 4, 5, 6, 7, 0] rfl ?_
        exact h
      · have hb := Classical.not_not.mp hb
        have b34 := hb
        replace h := h.2 hb
        refine s_aload_n (q := 82) 42 0 rfl rfl ?_
        refine s_iload_n (q := 83) 43 2 rfl rfl ?_
        refine s_aload_n (q := 84) 44 0 rfl rfl ?_
        refine n_getf (q := 87) (jj := 2) 45 6 2 rfl kX6_25 c1 ?_
        refine s_iload_n (q := 88) 46 2 rfl rfl ?_
        refine s_iload (q := 90) 47 7 rfl rfl ?_
        refine s_iconst (q := 91) 48 rfl ?_
        refine n_callV (N := mX0_cell) (as := [(0, x2), (0, x7), (0, 0)]) (st := [(0, x2), (2, x0)]) (q := 94) (d' := 0) 49 rfl uX0_cell kX6_140 rfl c2 ?_ (hd := by omega)
        show PW l G 0 mX0_cell (0, 0) 0 [(0, (2, F x0 2)), (1, (0, x2)), (2, (0, x7)), (3, (0, 0))] [] (n, K, F, E) _
        refine s_aload_n (q := 1) 0 0 rfl rfl ?_
        refine n_getf (q := 4) (jj := 0) 1 0 0 rfl kX0_11 c2 ?_
        refine s_bipush (q := 6) 2 rfl ?_
        refine s_iload_n (q := 7) 3 1 rfl rfl ?_
        refine s_bipush (q := 9) 4 rfl ?_
        refine n_imul (q := 10) 5 rfl c28 ?_
        refine s_iload_n (q := 11) 6 2 rfl rfl ?_
        refine n_iadd (q := 12) 7 rfl c29 ?_
        refine s_iconst (q := 13) 8 rfl ?_
        refine n_imul (q := 14) 9 rfl c30 ?_
        refine n_iadd (q := 15) 10 rfl c31 ?_
        refine s_iload_n (q := 16) 11 3 rfl rfl ?_
        obtain ⟨c36, h⟩ := h
        refine n_iadd (q := 17) 12 rfl c36 ?_
        obtain ⟨c37, h⟩ := h
        refine n_iald (q := 18) 13 rfl c4 c37 ?_
        refine PW.name (fun a12 ea12 => ?_)
        replace h := h a12 ea12
        refine s_iret 14 rfl rfl ?_
        show PW l G d mX6_passAll bg 94 [(0, (2, x0)), (1, (0, x1)), (2, (0, x2)), (3, (0, x3)), (4, (0, x4)), (5, (0, x5)), (6, (0, x6)), (7, (0, x7))] [(0, a12), (0, x2), (2, x0)] (n, K, F, E) Q
        refine s_aload_n (q := 95) 50 0 rfl rfl ?_
        refine n_getf (q := 98) (jj := 2) 51 6 2 rfl kX6_25 c1 ?_
        refine s_iload_n (q := 99) 52 2 rfl rfl ?_
        refine s_iload (q := 101) 53 7 rfl rfl ?_
        refine s_iconst (q := 102) 54 rfl ?_
        refine n_callV (N := mX0_cell) (as := [(0, x2), (0, x7), (0, 1)]) (st := [(0, a12), (0, x2), (2, x0)]) (q := 105) (d' := 0) 55 rfl uX0_cell kX6_140 rfl c2 ?_ (hd := by omega)
        show PW l G 0 mX0_cell (0, 0) 0 [(0, (2, F x0 2)), (1, (0, x2)), (2, (0, x7)), (3, (0, 1))] [] (n, K, F, E) _
        refine s_aload_n (q := 1) 0 0 rfl rfl ?_
        refine n_getf (q := 4) (jj := 0) 1 0 0 rfl kX0_11 c2 ?_
        refine s_bipush (q := 6) 2 rfl ?_
        refine s_iload_n (q := 7) 3 1 rfl rfl ?_
        refine s_bipush (q := 9) 4 rfl ?_
        refine n_imul (q := 10) 5 rfl c28 ?_
        refine s_iload_n (q := 11) 6 2 rfl rfl ?_
        refine n_iadd (q := 12) 7 rfl c29 ?_
        refine s_iconst (q := 13) 8 rfl ?_
        refine n_imul (q := 14) 9 rfl c30 ?_
        refine n_iadd (q := 15) 10 rfl c31 ?_
        refine s_iload_n (q := 16) 11 3 rfl rfl ?_
        obtain ⟨c38, h⟩ := h
        refine n_iadd (q := 17) 12 rfl c38 ?_
        obtain ⟨c39, h⟩ := h
        refine n_iald (q := 18) 13 rfl c4 c39 ?_
        refine PW.name (fun a13 ea13 => ?_)
        replace h := h a13 ea13
        refine s_iret 14 rfl rfl ?_
        show PW l G d mX6_passAll bg 105 [(0, (2, x0)), (1, (0, x1)), (2, (0, x2)), (3, (0, x3)), (4, (0, x4)), (5, (0, x5)), (6, (0, x6)), (7, (0, x7))] [(0, a13), (0, a12), (0, x2), (2, x0)] (n, K, F, E) Q
        refine s_aload_n (q := 106) 56 0 rfl rfl ?_
        refine n_getf (q := 109) (jj := 2) 57 6 2 rfl kX6_25 c1 ?_
        refine s_iload_n (q := 110) 58 2 rfl rfl ?_
        refine s_iload (q := 112) 59 7 rfl rfl ?_
        refine s_iconst (q := 113) 60 rfl ?_
        refine n_callV (N := mX0_cell) (as := [(0, x2), (0, x7), (0, 2)]) (st := [(0, a13), (0, a12), (0, x2), (2, x0)]) (q := 116) (d' := 0) 61 rfl uX0_cell kX6_140 rfl c2 ?_ (hd := by omega)
        show PW l G 0 mX0_cell (0, 0) 0 [(0, (2, F x0 2)), (1, (0, x2)), (2, (0, x7)), (3, (0, 2))] [] (n, K, F, E) _
        refine s_aload_n (q := 1) 0 0 rfl rfl ?_
        refine n_getf (q := 4) (jj := 0) 1 0 0 rfl kX0_11 c2 ?_
        refine s_bipush (q := 6) 2 rfl ?_
        refine s_iload_n (q := 7) 3 1 rfl rfl ?_
        refine s_bipush (q := 9) 4 rfl ?_
        refine n_imul (q := 10) 5 rfl c28 ?_
        refine s_iload_n (q := 11) 6 2 rfl rfl ?_
        refine n_iadd (q := 12) 7 rfl c29 ?_
        refine s_iconst (q := 13) 8 rfl ?_
        refine n_imul (q := 14) 9 rfl c30 ?_
        refine n_iadd (q := 15) 10 rfl c31 ?_
        refine s_iload_n (q := 16) 11 3 rfl rfl ?_
        obtain ⟨c40, h⟩ := h
        refine n_iadd (q := 17) 12 rfl c40 ?_
        obtain ⟨c41, h⟩ := h
        refine n_iald (q := 18) 13 rfl c4 c41 ?_
        refine PW.name (fun a14 ea14 => ?_)
        replace h := h a14 ea14
        refine s_iret 14 rfl rfl ?_
        show PW l G d mX6_passAll bg 116 [(0, (2, x0)), (1, (0, x1)), (2, (0, x2)), (3, (0, x3)), (4, (0, x4)), (5, (0, x5)), (6, (0, x6)), (7, (0, x7))] [(0, a14), (0, a13), (0, a12), (0, x2), (2, x0)] (n, K, F, E) Q
        refine n_callV (N := mX6_hold) (as := [(0, x2), (0, a12), (0, a13), (0, a14)]) (st := []) (q := 119) (d' := 0) 62 rfl uX6_hold kX6_78 rfl c1 ?_ (hd := by omega)
        show PW l G 0 mX6_hold (0, 0) 0 [(0, (2, x0)), (1, (0, x2)), (2, (0, a12)), (3, (0, a13)), (4, (0, a14))] [] (n, K, F, E) _
        refine s_aload_n (q := 1) 0 0 rfl rfl ?_
        refine n_getf (q := 4) (jj := 8) 1 6 8 rfl kX6_46 c1 ?_
        refine s_iload_n (q := 5) 2 1 rfl rfl ?_
        refine s_iconst (q := 6) 3 rfl ?_
        obtain ⟨c42, h⟩ := h
        refine n_imul (q := 7) 4 rfl c42 ?_
        refine s_iload_n (q := 8) 5 2 rfl rfl ?_
        obtain ⟨c43, h⟩ := h
        obtain ⟨c44, h⟩ := h
        obtain ⟨c45, h⟩ := h
        refine n_iast (q := 9) 6 rfl c43 c44 c45 ?_
        refine PW.nameE (fun E15 eE15 => ?_)
        replace h := h E15 eE15
        refine s_aload_n (q := 10) 7 0 rfl rfl ?_
        refine n_getf (q := 13) (jj := 8) 8 6 8 rfl kX6_46 c1 ?_
        refine s_iload_n (q := 14) 9 1 rfl rfl ?_
        refine s_iconst (q := 15) 10 rfl ?_
        refine n_imul (q := 16) 11 rfl c42 ?_
        refine s_iconst (q := 17) 12 rfl ?_
        obtain ⟨c46, h⟩ := h
        refine n_iadd (q := 18) 13 rfl c46 ?_
        refine s_iload_n (q := 19) 14 3 rfl rfl ?_
        obtain ⟨c47, h⟩ := h
        refine n_iast (q := 20) 15 rfl c43 c44 c47 ?_
        refine PW.nameE (fun E16 eE16 => ?_)
        replace h := h E16 eE16
        refine s_aload_n (q := 21) 16 0 rfl rfl ?_
        refine n_getf (q := 24) (jj := 7) 17 6 7 rfl kX6_43 c1 ?_
        refine s_iload_n (q := 25) 18 1 rfl rfl ?_
        refine s_iload (q := 27) 19 4 rfl rfl ?_
        obtain ⟨c48, h⟩ := h
        obtain ⟨c49, h⟩ := h
        obtain ⟨c50, h⟩ := h
        refine n_iast (q := 28) 20 rfl c48 c49 c50 ?_
        refine PW.nameE (fun E17 eE17 => ?_)
        replace h := h E17 eE17
        refine s_vret 21 rfl rfl ?_
        show PW l G d mX6_passAll bg 119 [(0, (2, x0)), (1, (0, x1)), (2, (0, x2)), (3, (0, x3)), (4, (0, x4)), (5, (0, x5)), (6, (0, x6)), (7, (0, x7))] [] (n, K, F, E17) Q
        refine s_aload_n (q := 120) 63 0 rfl rfl ?_
        refine n_getf (q := 123) (jj := 9) 64 6 9 rfl kX6_49 c1 ?_
        refine s_iload_n (q := 124) 65 1 rfl rfl ?_
        refine s_dup2 (q := 125) 66 rfl ?_
        obtain ⟨c51, h⟩ := h
        obtain ⟨c52, h⟩ := h
        refine n_iald (q := 126) 67 rfl c51 c52 ?_
        refine s_iconst (q := 127) 68 rfl ?_
        refine s_isub (q := 128) 69 rfl ?_
        obtain ⟨c53, h⟩ := h
        refine n_iast (q := 129) 70 rfl c53 c51 c52 ?_
        refine PW.nameE (fun E18 eE18 => ?_)
        replace h := h E18 eE18
        refine s_aload_n (q := 130) 71 0 rfl rfl ?_
        refine s_iload_n (q := 131) 72 3 rfl rfl ?_
        refine s_iconst (q := 132) 73 rfl ?_
        refine s_iload_n (q := 133) 74 1 rfl rfl ?_
        refine s_ishl (q := 134) 75 rfl ?_
        refine s_ior (q := 135) 76 rfl ?_
        refine s_iload (q := 137) 77 4 rfl rfl ?_
        refine s_iconst (q := 138) 78 rfl ?_
        obtain ⟨c54, h⟩ := h
        refine n_iadd (q := 139) 79 rfl c54 ?_
        refine PW.pick [0, 1, 2, 3, 4, 5, 6, 7] rfl ?_
        exact n_callV (N := mX6_pass) (as := [(0, bOr x3 (bShl 1 x1)), (0, x4 + 1)]) (st := []) (q := 142) (d' := e) 80 rfl uX6_pass kX6_122 rfl c1 h (hd := by omega)
theorem vX6_passAll_142 {l : Launch} {G : pG} {d e : Nat} (hd : e + 1 ≤ d) (hB : 12 ≤ d) {bg : Nat × Nat} {n : Nat} {K : Int → Nat × Nat} {F E : Int → Int → Int} {Q : Option pV → pM → Prop} (x0 x1 x2 x3 x4 x5 x6 x7 : Int) (h : (-2147483648 ≤ x7 + 1 ∧ x7 + 1 < 2147483648) ∧ PW l G d mX6_passAll bg 44 [(0, (2, x0)), (1, (0, x1)), (2, (0, x2)), (3, (0, x3)), (4, (0, x4)), (5, (0, x5)), (6, (0, x6)), (7, (0, x7 + 1))] [] (n, K, F, E) Q) : PW l G d mX6_passAll bg 142 [(0, (2, x0)), (1, (0, x1)), (2, (0, x2)), (3, (0, x3)), (4, (0, x4)), (5, (0, x5)), (6, (0, x6)), (7, (0, x7))] [] (n, K, F, E) Q := by
  obtain ⟨c1, h⟩ := h
  refine n_iinc (q := 145) (lv' := [(7, (0, x7 + 1)), (0, (2, x0)), (1, (0, x1)), (2, (0, x2)), (3, (0, x3)), (4, (0, x4)), (5, (0, x5)), (6, (0, x6))]) 81 7 rfl rfl c1 rfl ?_
  refine s_goto (tgt := 44) 82 rfl rfl ?_
  refine PW.pick [1, 2, 3, 4, 5, 6, 7, 0] rfl ?_
  exact h
theorem vX6_addResult_0 {l : Launch} {G : pG} {bg : Nat × Nat} {n : Nat} {K : Int → Nat × Nat} {F E : Int → Int → Int} {Q : Option pV → pM → Prop} (x0 : Int) (h : (K x0).1 = 6 ∧ ((99 ≤ F x0 12 → (-2147483648 ≤ (F x0 12) + 1 ∧ (F x0 12) + 1 < 2147483648) ∧ (∀ F1, F1 = pUp F x0 12 ((F x0 12) + 1) → Q none (n, K, F1, E))) ∧ (¬ (99 ≤ F x0 12) → (-2147483648 ≤ (F x0 12) * 3 ∧ (F x0 12) * 3 < 2147483648) ∧ (0 : Int) ≤ F x0 7 ∧ (K (F x0 7)).1 = 20 ∧ (0 : Int) ≤ F x0 10 ∧ (K (F x0 10)).1 = 20 ∧ ((0 : Int) ≤ 0 ∧ (0 : Int) ≤ (F x0 12) * 3 ∧ (0 : Int) ≤ 3 ∧ 0 + 3 ≤ ((K (F x0 7)).2 : Int) ∧ (F x0 12) * 3 + 3 ≤ ((K (F x0 10)).2 : Int)) ∧ (∀ E2, E2 = pRow E (F x0 10) (pCpy E (F x0 7) 0 (F x0 10) ((F x0 12) * 3) 3) → (-2147483648 ≤ (F x0 12) + 1 ∧ (F x0 12) + 1 < 2147483648) ∧ (∀ F3, F3 = pUp F x0 12 ((F x0 12) + 1) → Q none (n, K, F3, E2)))))) : PW l G 0 mX6_addResult bg 0 [(0, (2, x0))] [] (n, K, F, E) Q := by
  refine s_aload_n (q := 1) 0 0 rfl rfl ?_
  obtain ⟨c1, h⟩ := h
  refine n_getf (q := 4) (jj := 12) 1 6 12 rfl kX6_58 c1 ?_
  refine s_bipush (q := 6) 2 rfl ?_
  refine s_icmp_ge (q := 9) (tgt := 28) 3 rfl rfl (fun hb => ?_) (fun hb => ?_)
  · skip
    have b2 := hb
    replace h := h.1 hb
    refine s_aload_n (q := 29) 15 0 rfl rfl ?_
    refine s_dup (q := 30) 16 rfl ?_
    refine n_getf (q := 33) (jj := 12) 17 6 12 rfl kX6_58 c1 ?_
    refine s_iconst (q := 34) 18 rfl ?_
    obtain ⟨c3, h⟩ := h
    refine n_iadd (q := 35) 19 rfl c3 ?_
    refine n_putf (q := 38) (jj := 12) 20 6 12 rfl kX6_58 c1 (Or.inl rfl) ?_
    refine PW.nameF (fun F1 eF1 => ?_)
    replace h := h F1 eF1
    exact s_vret 21 rfl rfl h
  · skip
    have b2 := hb
    replace h := h.2 hb
    refine s_aload_n (q := 10) 4 0 rfl rfl ?_
    refine n_getf (q := 13) (jj := 7) 5 6 7 rfl kX6_43 c1 ?_
    refine s_iconst (q := 14) 6 rfl ?_
    refine s_aload_n (q := 15) 7 0 rfl rfl ?_
    refine n_getf (q := 18) (jj := 10) 8 6 10 rfl kX6_52 c1 ?_
    refine s_aload_n (q := 19) 9 0 rfl rfl ?_
    refine n_getf (q := 22) (jj := 12) 10 6 12 rfl kX6_58 c1 ?_
    refine s_iconst (q := 23) 11 rfl ?_
    obtain ⟨c4, h⟩ := h
    refine n_imul (q := 24) 12 rfl c4 ?_
    refine s_iconst (q := 25) 13 rfl ?_
    obtain ⟨c5, h⟩ := h
    obtain ⟨c6, h⟩ := h
    obtain ⟨c7, h⟩ := h
    obtain ⟨c8, h⟩ := h
    obtain ⟨c9, h⟩ := h
    refine n_copy (q := 28) 14 rfl kX6_143 c5 c6 c7 c8 c9 ?_
    refine PW.nameE (fun E2 eE2 => ?_)
    replace h := h E2 eE2
    refine s_aload_n (q := 29) 15 0 rfl rfl ?_
    refine s_dup (q := 30) 16 rfl ?_
    refine n_getf (q := 33) (jj := 12) 17 6 12 rfl kX6_58 c1 ?_
    refine s_iconst (q := 34) 18 rfl ?_
    obtain ⟨c10, h⟩ := h
    refine n_iadd (q := 35) 19 rfl c10 ?_
    refine n_putf (q := 38) (jj := 12) 20 6 12 rfl kX6_58 c1 (Or.inl rfl) ?_
    refine PW.nameF (fun F3 eF3 => ?_)
    replace h := h F3 eF3
    exact s_vret 21 rfl rfl h
theorem vX6_chosen_0 {l : Launch} {G : pG} {bg : Nat × Nat} {n : Nat} {K : Int → Nat × Nat} {F E : Int → Int → Int} {Q : Option pV → pM → Prop} (x0 x1 : Int) (h : PW l G 2 mX6_chosen bg 4 [(0, (2, x0)), (1, (0, x1)), (2, (0, (-1))), (3, (0, 0))] [] (n, K, F, E) Q) : PW l G 2 mX6_chosen bg 0 [(0, (2, x0)), (1, (0, x1))] [] (n, K, F, E) Q := by
  refine s_iconst (q := 1) 0 rfl ?_
  refine s_istore_n (q := 2) (lv' := [(2, (0, (-1))), (0, (2, x0)), (1, (0, x1))]) 1 rfl rfl ?_
  refine s_iconst (q := 3) 2 rfl ?_
  refine s_istore_n (q := 4) (lv' := [(3, (0, 0)), (2, (0, (-1))), (0, (2, x0)), (1, (0, x1))]) 3 rfl rfl ?_
  refine PW.pick [2, 3, 1, 0] rfl ?_
  exact h
theorem vX6_chosen_4 {l : Launch} {G : pG} {bg : Nat × Nat} {n : Nat} {K : Int → Nat × Nat} {F E : Int → Int → Int} {Q : Option pV → pM → Prop} (x0 x1 x2 x3 : Int) (h : (K x0).1 = 6 ∧ (K (F x0 2)).1 = 0 ∧ (K (F (F x0 2) 0)).1 = 20 ∧ ((0 : Int) ≤ 0 ∧ 0 < ((K (F (F x0 2) 0)).2 : Int)) ∧ ((E (F (F x0 2) 0) 0 ≤ x3 → Q (some (0, x2)) (n, K, F, E)) ∧ (¬ (E (F (F x0 2) 0) 0 ≤ x3) → ((¬ (F x0 4 = -1) → (K (F x0 4)).1 = 20 ∧ ((0 : Int) ≤ x3 ∧ x3 < ((K (F x0 4)).2 : Int)) ∧ PC l G 1 mX6_isOpen (0, 0) [(2, x0), (0, E (F x0 4) x3), (0, x1)] (n, K, F, E) (fun r μ => PW l G 2 mX6_chosen bg 41 [(0, (2, x0)), (1, (0, x1)), (2, (0, x2)), (3, (0, x3)), (4, (0, E (F x0 4) x3))] (r.toList ++ []) μ Q)) ∧ (F x0 4 = -1 → PC l G 1 mX6_isOpen (0, 0) [(2, x0), (0, x3), (0, x1)] (n, K, F, E) (fun r μ => PW l G 2 mX6_chosen bg 41 [(0, (2, x0)), (1, (0, x1)), (2, (0, x2)), (3, (0, x3)), (4, (0, x3))] (r.toList ++ []) μ Q)))))) : PW l G 2 mX6_chosen bg 4 [(0, (2, x0)), (1, (0, x1)), (2, (0, x2)), (3, (0, x3))] [] (n, K, F, E) Q := by
  refine s_iload_n (q := 5) 4 3 rfl rfl ?_
  refine s_aload_n (q := 6) 5 0 rfl rfl ?_
  obtain ⟨c1, h⟩ := h
  refine n_getf (q := 9) (jj := 2) 6 6 2 rfl kX6_25 c1 ?_
  obtain ⟨c2, h⟩ := h
  refine n_callV (N := mX0_operators) (as := []) (st := [(0, x3)]) (q := 12) (d' := 0) 7 rfl uX0_operators kX6_82 rfl c2 ?_
  show PW l G 0 mX0_operators (0, 0) 0 [(0, (2, F x0 2))] [] (n, K, F, E) _
  refine s_aload_n (q := 1) 0 0 rfl rfl ?_
  refine n_getf (q := 4) (jj := 0) 1 0 0 rfl kX0_11 c2 ?_
  refine s_iconst (q := 5) 2 rfl ?_
  obtain ⟨c3, h⟩ := h
  obtain ⟨c4, h⟩ := h
  refine n_iald (q := 6) 3 rfl c3 c4 ?_
  refine s_iret 4 rfl rfl ?_
  show PW l G 2 mX6_chosen bg 12 [(0, (2, x0)), (1, (0, x1)), (2, (0, x2)), (3, (0, x3))] [(0, E (F (F x0 2) 0) 0), (0, x3)] (n, K, F, E) Q
  refine s_icmp_ge (q := 15) (tgt := 87) 8 rfl rfl (fun hb => ?_) (fun hb => ?_)
  · skip
    have b5 := hb
    replace h := h.1 hb
    refine s_iload_n (q := 88) 46 2 rfl rfl ?_
    exact s_iret 47 rfl rfl h
  · skip
    have b5 := hb
    replace h := h.2 hb
    refine s_aload_n (q := 16) 9 0 rfl rfl ?_
    refine n_getf (q := 19) (jj := 4) 10 6 4 rfl kX6_33 c1 ?_
    refine s_ifnonnull (q := 22) (tgt := 26) 11 rfl rfl (fun hb => ?_) (fun hb => ?_)
    · replace h := h.1 hb
      refine s_aload_n (q := 27) 14 0 rfl rfl ?_
      refine n_getf (q := 30) (jj := 4) 15 6 4 rfl kX6_33 c1 ?_
      refine s_iload_n (q := 31) 16 3 rfl rfl ?_
      obtain ⟨c6, h⟩ := h
      obtain ⟨c7, h⟩ := h
      refine n_iald (q := 32) 17 rfl c6 c7 ?_
      refine s_istore (q := 34) (lv' := [(4, (0, E (F x0 4) x3)), (0, (2, x0)), (1, (0, x1)), (2, (0, x2)), (3, (0, x3))]) 18 rfl rfl ?_
      refine s_aload_n (q := 35) 19 1 rfl rfl ?_
      refine s_iload (q := 37) 20 0 rfl rfl ?_
      refine s_iload_n (q := 38) 21 2 rfl rfl ?_
      refine PW.pick [1, 2, 3, 4, 0] rfl ?_
      exact n_callV (N := mX6_isOpen) (as := [(0, E (F x0 4) x3), (0, x1)]) (st := []) (q := 41) (d' := 1) 22 rfl uX6_isOpen kX6_149 rfl c1 h
    · have hb := Classical.not_not.mp hb
      replace h := h.2 hb
      refine s_iload_n (q := 23) 12 3 rfl rfl ?_
      refine s_goto (tgt := 32) 13 rfl rfl ?_
      refine s_istore (q := 34) (lv' := [(4, (0, x3)), (0, (2, x0)), (1, (0, x1)), (2, (0, x2)), (3, (0, x3))]) 18 rfl rfl ?_
      refine s_aload_n (q := 35) 19 1 rfl rfl ?_
      refine s_iload (q := 37) 20 0 rfl rfl ?_
      refine s_iload_n (q := 38) 21 2 rfl rfl ?_
      refine PW.pick [1, 2, 3, 4, 0] rfl ?_
      exact n_callV (N := mX6_isOpen) (as := [(0, x3), (0, x1)]) (st := []) (q := 41) (d' := 1) 22 rfl uX6_isOpen kX6_149 rfl c1 h
theorem vX6_chosen_41 {l : Launch} {G : pG} {bg : Nat × Nat} {n : Nat} {K : Int → Nat × Nat} {F E : Int → Int → Int} {Q : Option pV → pM → Prop} (x0 x1 x2 x3 x4 s0 : Int) (h : ((¬ s0 = 0 → (K x0).1 = 6 ∧ ((F x0 4 = -1 → ((x2 = (-1) → (-2147483648 ≤ x3 + 1 ∧ x3 + 1 < 2147483648) ∧ PW l G 2 mX6_chosen bg 4 [(0, (2, x0)), (1, (0, x1)), (2, (0, x4)), (3, (0, x3 + 1))] [] (n, K, F, E) Q) ∧ (¬ (x2 = (-1)) → (K (F x0 9)).1 = 20 ∧ ((0 : Int) ≤ x4 ∧ x4 < ((K (F x0 9)).2 : Int)) ∧ ((0 : Int) ≤ x2 ∧ x2 < ((K (F x0 9)).2 : Int)) ∧ ((E (F x0 9) x4 ≤ E (F x0 9) x2 → (-2147483648 ≤ x3 + 1 ∧ x3 + 1 < 2147483648) ∧ PW l G 2 mX6_chosen bg 4 [(0, (2, x0)), (1, (0, x1)), (2, (0, x2)), (3, (0, x3 + 1))] [] (n, K, F, E) Q) ∧ (¬ (E (F x0 9) x4 ≤ E (F x0 9) x2) → (-2147483648 ≤ x3 + 1 ∧ x3 + 1 < 2147483648) ∧ PW l G 2 mX6_chosen bg 4 [(0, (2, x0)), (1, (0, x1)), (2, (0, x4)), (3, (0, x3 + 1))] [] (n, K, F, E) Q))))) ∧ (¬ (F x0 4 = -1) → Q (some (0, x4)) (n, K, F, E)))) ∧ (s0 = 0 → (-2147483648 ≤ x3 + 1 ∧ x3 + 1 < 2147483648) ∧ PW l G 2 mX6_chosen bg 4 [(0, (2, x0)), (1, (0, x1)), (2, (0, x2)), (3, (0, x3 + 1))] [] (n, K, F, E) Q))) : PW l G 2 mX6_chosen bg 41 [(0, (2, x0)), (1, (0, x1)), (2, (0, x2)), (3, (0, x3)), (4, (0, x4))] [(0, s0)] (n, K, F, E) Q := by
  refine s_if_ne (q := 44) (tgt := 47) 23 rfl rfl (fun hb => ?_) (fun hb => ?_)
  · skip
    have b1 := hb
    replace h := h.1 hb
    refine s_aload_n (q := 48) 25 0 rfl rfl ?_
    obtain ⟨c2, h⟩ := h
    refine n_getf (q := 51) (jj := 4) 26 6 4 rfl kX6_33 c2 ?_
    refine s_ifnull (q := 54) (tgt := 57) 27 rfl rfl (fun hb => ?_) (fun hb => ?_)
    · replace h := h.1 hb
      refine s_iload_n (q := 58) 30 2 rfl rfl ?_
      refine s_iconst (q := 59) 31 rfl ?_
      refine s_icmp_eq (q := 62) (tgt := 78) 32 rfl rfl (fun hb => ?_) (fun hb => ?_)
      · skip
        have b3 := hb
        replace h := h.1 hb
        refine s_iload (q := 80) 42 4 rfl rfl ?_
        refine s_istore_n (q := 81) (lv' := [(2, (0, x4)), (0, (2, x0)), (1, (0, x1)), (3, (0, x3)), (4, (0, x4))]) 43 rfl rfl ?_
        obtain ⟨c4, h⟩ := h
        refine n_iinc (q := 84) (lv' := [(3, (0, x3 + 1)), (2, (0, x4)), (0, (2, x0)), (1, (0, x1)), (4, (0, x4))]) 44 3 rfl rfl c4 rfl ?_
        refine s_goto (tgt := 4) 45 rfl rfl ?_
        refine PW.pick [2, 3, 1, 0] rfl ?_
        exact h
      · skip
        have b3 := hb
        replace h := h.2 hb
        refine s_aload_n (q := 63) 33 0 rfl rfl ?_
        refine n_getf (q := 66) (jj := 9) 34 6 9 rfl kX6_49 c2 ?_
        refine s_iload (q := 68) 35 4 rfl rfl ?_
        obtain ⟨c5, h⟩ := h
        obtain ⟨c6, h⟩ := h
        refine n_iald (q := 69) 36 rfl c5 c6 ?_
        refine s_aload_n (q := 70) 37 0 rfl rfl ?_
        refine n_getf (q := 73) (jj := 9) 38 6 9 rfl kX6_49 c2 ?_
        refine s_iload_n (q := 74) 39 2 rfl rfl ?_
        obtain ⟨c7, h⟩ := h
        refine n_iald (q := 75) 40 rfl c5 c7 ?_
        refine s_icmp_le (q := 78) (tgt := 81) 41 rfl rfl (fun hb => ?_) (fun hb => ?_)
        · skip
          have b8 := hb
          replace h := h.1 hb
          obtain ⟨c9, h⟩ := h
          refine n_iinc (q := 84) (lv' := [(3, (0, x3 + 1)), (0, (2, x0)), (1, (0, x1)), (2, (0, x2)), (4, (0, x4))]) 44 3 rfl rfl c9 rfl ?_
          refine s_goto (tgt := 4) 45 rfl rfl ?_
          refine PW.pick [1, 2, 3, 0] rfl ?_
          exact h
        · skip
          have b8 := hb
          replace h := h.2 hb
          refine s_iload (q := 80) 42 4 rfl rfl ?_
          refine s_istore_n (q := 81) (lv' := [(2, (0, x4)), (0, (2, x0)), (1, (0, x1)), (3, (0, x3)), (4, (0, x4))]) 43 rfl rfl ?_
          obtain ⟨c10, h⟩ := h
          refine n_iinc (q := 84) (lv' := [(3, (0, x3 + 1)), (2, (0, x4)), (0, (2, x0)), (1, (0, x1)), (4, (0, x4))]) 44 3 rfl rfl c10 rfl ?_
          refine s_goto (tgt := 4) 45 rfl rfl ?_
          refine PW.pick [2, 3, 1, 0] rfl ?_
          exact h
    · replace h := h.2 hb
      refine s_iload (q := 56) 28 4 rfl rfl ?_
      exact s_iret 29 rfl rfl h
  · have hb := Classical.not_not.mp hb
    have b1 := hb
    replace h := h.2 hb
    refine s_goto (tgt := 81) 24 rfl rfl ?_
    obtain ⟨c11, h⟩ := h
    refine n_iinc (q := 84) (lv' := [(3, (0, x3 + 1)), (0, (2, x0)), (1, (0, x1)), (2, (0, x2)), (4, (0, x4))]) 44 3 rfl rfl c11 rfl ?_
    refine s_goto (tgt := 4) 45 rfl rfl ?_
    refine PW.pick [1, 2, 3, 0] rfl ?_
    exact h
theorem vX6_isOpen_0 {l : Launch} {G : pG} {bg : Nat × Nat} {n : Nat} {K : Int → Nat × Nat} {F E : Int → Int → Int} {Q : Option pV → pM → Prop} (x0 x1 x2 : Int) (h : ((¬ (bAnd (bShr x2 x1) 1) = 1 → (K x0).1 = 6 ∧ (K (F x0 2)).1 = 0 ∧ (-2147483648 ≤ x1 * 6 ∧ x1 * 6 < 2147483648) ∧ (-2147483648 ≤ 12 + (x1 * 6) ∧ 12 + (x1 * 6) < 2147483648) ∧ (-2147483648 ≤ (12 + (x1 * 6)) + 1 ∧ (12 + (x1 * 6)) + 1 < 2147483648) ∧ (K (F (F x0 2) 0)).1 = 20 ∧ ((0 : Int) ≤ (12 + (x1 * 6)) + 1 ∧ (12 + (x1 * 6)) + 1 < ((K (F (F x0 2) 0)).2 : Int)) ∧ (K (F x0 7)).1 = 20 ∧ ((0 : Int) ≤ E (F (F x0 2) 0) ((12 + (x1 * 6)) + 1) ∧ E (F (F x0 2) 0) ((12 + (x1 * 6)) + 1) < ((K (F x0 7)).2 : Int)) ∧ (∀ a1, a1 = E (F x0 7) (E (F (F x0 2) 0) ((12 + (x1 * 6)) + 1)) → ((a1 ≤ 0 → (-2147483648 ≤ (12 + (x1 * 6)) + 0 ∧ (12 + (x1 * 6)) + 0 < 2147483648) ∧ ((0 : Int) ≤ (12 + (x1 * 6)) + 0 ∧ (12 + (x1 * 6)) + 0 < ((K (F (F x0 2) 0)).2 : Int)) ∧ ((¬ (E (F (F x0 2) 0) ((12 + (x1 * 6)) + 0)) = 0 → Q (some (0, 0)) (n, K, F, E)) ∧ ((E (F (F x0 2) 0) ((12 + (x1 * 6)) + 0)) = 0 → (-2147483648 ≤ (12 + (x1 * 6)) + 3 ∧ (12 + (x1 * 6)) + 3 < 2147483648) ∧ ((0 : Int) ≤ (12 + (x1 * 6)) + 3 ∧ (12 + (x1 * 6)) + 3 < ((K (F (F x0 2) 0)).2 : Int)) ∧ ((0 : Int) ≤ E (F (F x0 2) 0) ((12 + (x1 * 6)) + 3) ∧ E (F (F x0 2) 0) ((12 + (x1 * 6)) + 3) < ((K (F x0 7)).2 : Int)) ∧ (∀ a2, a2 = E (F x0 7) (E (F (F x0 2) 0) ((12 + (x1 * 6)) + 3)) → ((a2 ≤ 0 → Q (some (0, 0)) (n, K, F, E)) ∧ (¬ (a2 ≤ 0) → Q (some (0, 1)) (n, K, F, E))))))) ∧ (¬ (a1 ≤ 0) → Q (some (0, 1)) (n, K, F, E))))) ∧ ((bAnd (bShr x2 x1) 1) = 1 → Q (some (0, 0)) (n, K, F, E)))) : PW l G 1 mX6_isOpen bg 0 [(0, (2, x0)), (1, (0, x1)), (2, (0, x2))] [] (n, K, F, E) Q := by
  refine s_iload_n (q := 1) 0 2 rfl rfl ?_
  refine s_iload_n (q := 2) 1 1 rfl rfl ?_
  refine s_ishr (q := 3) 2 rfl ?_
  refine s_iconst (q := 4) 3 rfl ?_
  refine s_iand (q := 5) 4 rfl ?_
  refine s_iconst (q := 6) 5 rfl ?_
  refine s_icmp_ne (q := 9) (tgt := 11) 6 rfl rfl (fun hb => ?_) (fun hb => ?_)
  · skip
    have b1 := hb
    replace h := h.1 hb
    refine s_aload_n (q := 12) 9 0 rfl rfl ?_
    obtain ⟨c2, h⟩ := h
    refine n_getf (q := 15) (jj := 7) 10 6 7 rfl kX6_43 c2 ?_
    refine s_aload_n (q := 16) 11 0 rfl rfl ?_
    refine n_getf (q := 19) (jj := 2) 12 6 2 rfl kX6_25 c2 ?_
    refine s_iload_n (q := 20) 13 1 rfl rfl ?_
    refine s_iconst (q := 21) 14 rfl ?_
    obtain ⟨c3, h⟩ := h
    refine n_callV (N := mX0_part) (as := [(0, x1), (0, 1)]) (st := [(2, F x0 7)]) (q := 24) (d' := 0) 15 rfl uX0_part kX6_85 rfl c3 ?_
    show PW l G 0 mX0_part (0, 0) 0 [(0, (2, F x0 2)), (1, (0, x1)), (2, (0, 1))] [] (n, K, F, E) _
    refine s_aload_n (q := 1) 0 0 rfl rfl ?_
    refine n_getf (q := 4) (jj := 0) 1 0 0 rfl kX0_11 c3 ?_
    refine s_bipush (q := 6) 2 rfl ?_
    refine s_iload_n (q := 7) 3 1 rfl rfl ?_
    refine s_bipush (q := 9) 4 rfl ?_
    obtain ⟨c4, h⟩ := h
    refine n_imul (q := 10) 5 rfl c4 ?_
    obtain ⟨c5, h⟩ := h
    refine n_iadd (q := 11) 6 rfl c5 ?_
    refine s_iload_n (q := 12) 7 2 rfl rfl ?_
    obtain ⟨c6, h⟩ := h
    refine n_iadd (q := 13) 8 rfl c6 ?_
    obtain ⟨c7, h⟩ := h
    obtain ⟨c8, h⟩ := h
    refine n_iald (q := 14) 9 rfl c7 c8 ?_
    refine s_iret 10 rfl rfl ?_
    show PW l G 1 mX6_isOpen bg 24 [(0, (2, x0)), (1, (0, x1)), (2, (0, x2))] [(0, E (F (F x0 2) 0) ((12 + (x1 * 6)) + 1)), (2, F x0 7)] (n, K, F, E) Q
    obtain ⟨c9, h⟩ := h
    obtain ⟨c10, h⟩ := h
    refine n_iald (q := 25) 16 rfl c9 c10 ?_
    refine PW.name (fun a1 ea1 => ?_)
    replace h := h a1 ea1
    refine s_if_le (q := 28) (tgt := 32) 17 rfl rfl (fun hb => ?_) (fun hb => ?_)
    · skip
      have b11 := hb
      replace h := h.1 hb
      refine s_iconst (q := 33) 20 rfl ?_
      refine s_istore_n (q := 34) (lv' := [(3, (0, 0)), (0, (2, x0)), (1, (0, x1)), (2, (0, x2))]) 21 rfl rfl ?_
      refine s_iload_n (q := 35) 22 0 rfl rfl ?_
      refine s_if_ne (q := 38) (tgt := 67) 23 rfl rfl (fun hb => absurd hb (by decide)) (fun _ => ?_)
      refine s_aload_n (q := 39) 24 1 rfl rfl ?_
      refine n_getf (q := 42) (jj := 2) 25 6 2 rfl kX6_25 c2 ?_
      refine s_iload_n (q := 43) 26 2 rfl rfl ?_
      refine s_iconst (q := 44) 27 rfl ?_
      refine n_callV (N := mX0_part) (as := [(0, x1), (0, 0)]) (st := []) (q := 47) (d' := 0) 28 rfl uX0_part kX6_85 rfl c3 ?_
      show PW l G 0 mX0_part (0, 0) 0 [(0, (2, F x0 2)), (1, (0, x1)), (2, (0, 0))] [] (n, K, F, E) _
      refine s_aload_n (q := 1) 0 0 rfl rfl ?_
      refine n_getf (q := 4) (jj := 0) 1 0 0 rfl kX0_11 c3 ?_
      refine s_bipush (q := 6) 2 rfl ?_
      refine s_iload_n (q := 7) 3 1 rfl rfl ?_
      refine s_bipush (q := 9) 4 rfl ?_
      refine n_imul (q := 10) 5 rfl c4 ?_
      refine n_iadd (q := 11) 6 rfl c5 ?_
      refine s_iload_n (q := 12) 7 2 rfl rfl ?_
      obtain ⟨c12, h⟩ := h
      refine n_iadd (q := 13) 8 rfl c12 ?_
      obtain ⟨c13, h⟩ := h
      refine n_iald (q := 14) 9 rfl c7 c13 ?_
      refine s_iret 10 rfl rfl ?_
      show PW l G 1 mX6_isOpen bg 47 [(3, (0, 0)), (0, (2, x0)), (1, (0, x1)), (2, (0, x2))] [(0, E (F (F x0 2) 0) ((12 + (x1 * 6)) + 0))] (n, K, F, E) Q
      refine s_if_ne (q := 50) (tgt := 71) 29 rfl rfl (fun hb => ?_) (fun hb => ?_)
      · skip
        have b14 := hb
        replace h := h.1 hb
        refine s_iconst (q := 72) 41 rfl ?_
        exact s_zret 42 rfl rfl (by decide) h
      · have hb := Classical.not_not.mp hb
        have b14 := hb
        replace h := h.2 hb
        refine s_aload_n (q := 51) 30 1 rfl rfl ?_
        refine n_getf (q := 54) (jj := 7) 31 6 7 rfl kX6_43 c2 ?_
        refine s_aload_n (q := 55) 32 1 rfl rfl ?_
        refine n_getf (q := 58) (jj := 2) 33 6 2 rfl kX6_25 c2 ?_
        refine s_iload_n (q := 59) 34 2 rfl rfl ?_
        refine s_iconst (q := 60) 35 rfl ?_
        refine n_callV (N := mX0_part) (as := [(0, x1), (0, 3)]) (st := [(2, F x0 7)]) (q := 63) (d' := 0) 36 rfl uX0_part kX6_85 rfl c3 ?_
        show PW l G 0 mX0_part (0, 0) 0 [(0, (2, F x0 2)), (1, (0, x1)), (2, (0, 3))] [] (n, K, F, E) _
        refine s_aload_n (q := 1) 0 0 rfl rfl ?_
        refine n_getf (q := 4) (jj := 0) 1 0 0 rfl kX0_11 c3 ?_
        refine s_bipush (q := 6) 2 rfl ?_
        refine s_iload_n (q := 7) 3 1 rfl rfl ?_
        refine s_bipush (q := 9) 4 rfl ?_
        refine n_imul (q := 10) 5 rfl c4 ?_
        refine n_iadd (q := 11) 6 rfl c5 ?_
        refine s_iload_n (q := 12) 7 2 rfl rfl ?_
        obtain ⟨c15, h⟩ := h
        refine n_iadd (q := 13) 8 rfl c15 ?_
        obtain ⟨c16, h⟩ := h
        refine n_iald (q := 14) 9 rfl c7 c16 ?_
        refine s_iret 10 rfl rfl ?_
        show PW l G 1 mX6_isOpen bg 63 [(3, (0, 0)), (0, (2, x0)), (1, (0, x1)), (2, (0, x2))] [(0, E (F (F x0 2) 0) ((12 + (x1 * 6)) + 3)), (2, F x0 7)] (n, K, F, E) Q
        obtain ⟨c17, h⟩ := h
        refine n_iald (q := 64) 37 rfl c9 c17 ?_
        refine PW.name (fun a2 ea2 => ?_)
        replace h := h a2 ea2
        refine s_if_le (q := 67) (tgt := 71) 38 rfl rfl (fun hb => ?_) (fun hb => ?_)
        · skip
          have b18 := hb
          replace h := h.1 hb
          refine s_iconst (q := 72) 41 rfl ?_
          exact s_zret 42 rfl rfl (by decide) h
        · skip
          have b18 := hb
          replace h := h.2 hb
          refine s_iconst (q := 68) 39 rfl ?_
          refine s_goto (tgt := 72) 40 rfl rfl ?_
          exact s_zret 42 rfl rfl (by decide) h
    · skip
      have b11 := hb
      replace h := h.2 hb
      refine s_iconst (q := 29) 18 rfl ?_
      refine s_goto (tgt := 33) 19 rfl rfl ?_
      refine s_istore_n (q := 34) (lv' := [(3, (0, 1)), (0, (2, x0)), (1, (0, x1)), (2, (0, x2))]) 21 rfl rfl ?_
      refine s_iload_n (q := 35) 22 0 rfl rfl ?_
      refine s_if_ne (q := 38) (tgt := 67) 23 rfl rfl (fun _ => ?_) (fun hb => absurd (by decide) hb)
      refine s_iconst (q := 68) 39 rfl ?_
      refine s_goto (tgt := 72) 40 rfl rfl ?_
      exact s_zret 42 rfl rfl (by decide) h
  · have hb := Classical.not_not.mp hb
    have b1 := hb
    replace h := h.2 hb
    refine s_iconst (q := 10) 7 rfl ?_
    exact s_zret 8 rfl rfl (by decide) h
theorem vX6_relationToOpen_0 {l : Launch} {G : pG} {bg : Nat × Nat} {n : Nat} {K : Int → Nat × Nat} {F E : Int → Int → Int} {Q : Option pV → pM → Prop} (x0 x1 : Int) (h : (K x0).1 = 6 ∧ (K (F x0 2)).1 = 0 ∧ (-2147483648 ≤ x1 * 6 ∧ x1 * 6 < 2147483648) ∧ (-2147483648 ≤ 12 + (x1 * 6) ∧ 12 + (x1 * 6) < 2147483648) ∧ (-2147483648 ≤ (12 + (x1 * 6)) + 0 ∧ (12 + (x1 * 6)) + 0 < 2147483648) ∧ (K (F (F x0 2) 0)).1 = 20 ∧ ((0 : Int) ≤ (12 + (x1 * 6)) + 0 ∧ (12 + (x1 * 6)) + 0 < ((K (F (F x0 2) 0)).2 : Int)) ∧ ((¬ (E (F (F x0 2) 0) ((12 + (x1 * 6)) + 0)) = 1 → (-2147483648 ≤ (12 + (x1 * 6)) + 1 ∧ (12 + (x1 * 6)) + 1 < 2147483648) ∧ ((0 : Int) ≤ (12 + (x1 * 6)) + 1 ∧ (12 + (x1 * 6)) + 1 < ((K (F (F x0 2) 0)).2 : Int)) ∧ (-2147483648 ≤ (12 + (x1 * 6)) + 3 ∧ (12 + (x1 * 6)) + 3 < 2147483648) ∧ ((0 : Int) ≤ (12 + (x1 * 6)) + 3 ∧ (12 + (x1 * 6)) + 3 < ((K (F (F x0 2) 0)).2 : Int)) ∧ (K (F x0 7)).1 = 20 ∧ ((0 : Int) ≤ E (F (F x0 2) 0) ((12 + (x1 * 6)) + 1) ∧ E (F (F x0 2) 0) ((12 + (x1 * 6)) + 1) < ((K (F x0 7)).2 : Int)) ∧ (∀ a1, a1 = E (F x0 7) (E (F (F x0 2) 0) ((12 + (x1 * 6)) + 1)) → ((¬ a1 = 0 → ((0 : Int) ≤ E (F (F x0 2) 0) ((12 + (x1 * 6)) + 3) ∧ E (F (F x0 2) 0) ((12 + (x1 * 6)) + 3) < ((K (F x0 7)).2 : Int)) ∧ (∀ a2, a2 = E (F x0 7) (E (F (F x0 2) 0) ((12 + (x1 * 6)) + 3)) → ((¬ a2 = 0 → Q (some (0, (-1))) (n, K, F, E)) ∧ (a2 = 0 → Q (some (0, E (F (F x0 2) 0) ((12 + (x1 * 6)) + 3))) (n, K, F, E))))) ∧ (a1 = 0 → Q (some (0, E (F (F x0 2) 0) ((12 + (x1 * 6)) + 1))) (n, K, F, E))))) ∧ ((E (F (F x0 2) 0) ((12 + (x1 * 6)) + 0)) = 1 → Q (some (0, (-1))) (n, K, F, E)))) : PW l G 1 mX6_relationToOpen bg 0 [(0, (2, x0)), (1, (0, x1))] [] (n, K, F, E) Q := by
  refine s_aload_n (q := 1) 0 0 rfl rfl ?_
  obtain ⟨c1, h⟩ := h
  refine n_getf (q := 4) (jj := 2) 1 6 2 rfl kX6_25 c1 ?_
  refine s_iload_n (q := 5) 2 1 rfl rfl ?_
  refine s_iconst (q := 6) 3 rfl ?_
  obtain ⟨c2, h⟩ := h
  refine n_callV (N := mX0_part) (as := [(0, x1), (0, 0)]) (st := []) (q := 9) (d' := 0) 4 rfl uX0_part kX6_85 rfl c2 ?_
  show PW l G 0 mX0_part (0, 0) 0 [(0, (2, F x0 2)), (1, (0, x1)), (2, (0, 0))] [] (n, K, F, E) _
  refine s_aload_n (q := 1) 0 0 rfl rfl ?_
  refine n_getf (q := 4) (jj := 0) 1 0 0 rfl kX0_11 c2 ?_
  refine s_bipush (q := 6) 2 rfl ?_
  refine s_iload_n (q := 7) 3 1 rfl rfl ?_
  refine s_bipush (q := 9) 4 rfl ?_
  obtain ⟨c3, h⟩ := h
  refine n_imul (q := 10) 5 rfl c3 ?_
  obtain ⟨c4, h⟩ := h
  refine n_iadd (q := 11) 6 rfl c4 ?_
  refine s_iload_n (q := 12) 7 2 rfl rfl ?_
  obtain ⟨c5, h⟩ := h
  refine n_iadd (q := 13) 8 rfl c5 ?_
  obtain ⟨c6, h⟩ := h
  obtain ⟨c7, h⟩ := h
  refine n_iald (q := 14) 9 rfl c6 c7 ?_
  refine s_iret 10 rfl rfl ?_
  show PW l G 1 mX6_relationToOpen bg 9 [(0, (2, x0)), (1, (0, x1))] [(0, E (F (F x0 2) 0) ((12 + (x1 * 6)) + 0))] (n, K, F, E) Q
  refine s_iconst (q := 10) 5 rfl ?_
  refine s_icmp_ne (q := 13) (tgt := 15) 6 rfl rfl (fun hb => ?_) (fun hb => ?_)
  · skip
    have b8 := hb
    replace h := h.1 hb
    refine s_aload_n (q := 16) 9 0 rfl rfl ?_
    refine n_getf (q := 19) (jj := 2) 10 6 2 rfl kX6_25 c1 ?_
    refine s_iload_n (q := 20) 11 1 rfl rfl ?_
    refine s_iconst (q := 21) 12 rfl ?_
    refine n_callV (N := mX0_part) (as := [(0, x1), (0, 1)]) (st := []) (q := 24) (d' := 0) 13 rfl uX0_part kX6_85 rfl c2 ?_
    show PW l G 0 mX0_part (0, 0) 0 [(0, (2, F x0 2)), (1, (0, x1)), (2, (0, 1))] [] (n, K, F, E) _
    refine s_aload_n (q := 1) 0 0 rfl rfl ?_
    refine n_getf (q := 4) (jj := 0) 1 0 0 rfl kX0_11 c2 ?_
    refine s_bipush (q := 6) 2 rfl ?_
    refine s_iload_n (q := 7) 3 1 rfl rfl ?_
    refine s_bipush (q := 9) 4 rfl ?_
    refine n_imul (q := 10) 5 rfl c3 ?_
    refine n_iadd (q := 11) 6 rfl c4 ?_
    refine s_iload_n (q := 12) 7 2 rfl rfl ?_
    obtain ⟨c9, h⟩ := h
    refine n_iadd (q := 13) 8 rfl c9 ?_
    obtain ⟨c10, h⟩ := h
    refine n_iald (q := 14) 9 rfl c6 c10 ?_
    refine s_iret 10 rfl rfl ?_
    show PW l G 1 mX6_relationToOpen bg 24 [(0, (2, x0)), (1, (0, x1))] [(0, E (F (F x0 2) 0) ((12 + (x1 * 6)) + 1))] (n, K, F, E) Q
    refine s_istore_n (q := 25) (lv' := [(2, (0, E (F (F x0 2) 0) ((12 + (x1 * 6)) + 1))), (0, (2, x0)), (1, (0, x1))]) 14 rfl rfl ?_
    refine s_aload_n (q := 26) 15 1 rfl rfl ?_
    refine n_getf (q := 29) (jj := 2) 16 6 2 rfl kX6_25 c1 ?_
    refine s_iload_n (q := 30) 17 2 rfl rfl ?_
    refine s_iconst (q := 31) 18 rfl ?_
    refine n_callV (N := mX0_part) (as := [(0, x1), (0, 3)]) (st := []) (q := 34) (d' := 0) 19 rfl uX0_part kX6_85 rfl c2 ?_
    show PW l G 0 mX0_part (0, 0) 0 [(0, (2, F x0 2)), (1, (0, x1)), (2, (0, 3))] [] (n, K, F, E) _
    refine s_aload_n (q := 1) 0 0 rfl rfl ?_
    refine n_getf (q := 4) (jj := 0) 1 0 0 rfl kX0_11 c2 ?_
    refine s_bipush (q := 6) 2 rfl ?_
    refine s_iload_n (q := 7) 3 1 rfl rfl ?_
    refine s_bipush (q := 9) 4 rfl ?_
    refine n_imul (q := 10) 5 rfl c3 ?_
    refine n_iadd (q := 11) 6 rfl c4 ?_
    refine s_iload_n (q := 12) 7 2 rfl rfl ?_
    obtain ⟨c11, h⟩ := h
    refine n_iadd (q := 13) 8 rfl c11 ?_
    obtain ⟨c12, h⟩ := h
    refine n_iald (q := 14) 9 rfl c6 c12 ?_
    refine s_iret 10 rfl rfl ?_
    show PW l G 1 mX6_relationToOpen bg 34 [(2, (0, E (F (F x0 2) 0) ((12 + (x1 * 6)) + 1))), (0, (2, x0)), (1, (0, x1))] [(0, E (F (F x0 2) 0) ((12 + (x1 * 6)) + 3))] (n, K, F, E) Q
    refine s_istore_n (q := 35) (lv' := [(3, (0, E (F (F x0 2) 0) ((12 + (x1 * 6)) + 3))), (2, (0, E (F (F x0 2) 0) ((12 + (x1 * 6)) + 1))), (0, (2, x0)), (1, (0, x1))]) 20 rfl rfl ?_
    refine s_aload_n (q := 36) 21 2 rfl rfl ?_
    refine n_getf (q := 39) (jj := 7) 22 6 7 rfl kX6_43 c1 ?_
    refine s_iload_n (q := 40) 23 1 rfl rfl ?_
    obtain ⟨c13, h⟩ := h
    obtain ⟨c14, h⟩ := h
    refine n_iald (q := 41) 24 rfl c13 c14 ?_
    refine PW.name (fun a1 ea1 => ?_)
    replace h := h a1 ea1
    refine s_if_ne (q := 44) (tgt := 46) 25 rfl rfl (fun hb => ?_) (fun hb => ?_)
    · skip
      have b15 := hb
      replace h := h.1 hb
      refine s_aload_n (q := 47) 28 2 rfl rfl ?_
      refine n_getf (q := 50) (jj := 7) 29 6 7 rfl kX6_43 c1 ?_
      refine s_iload_n (q := 51) 30 0 rfl rfl ?_
      obtain ⟨c16, h⟩ := h
      refine n_iald (q := 52) 31 rfl c13 c16 ?_
      refine PW.name (fun a2 ea2 => ?_)
      replace h := h a2 ea2
      refine s_if_ne (q := 55) (tgt := 59) 32 rfl rfl (fun hb => ?_) (fun hb => ?_)
      · skip
        have b17 := hb
        replace h := h.1 hb
        refine s_iconst (q := 60) 35 rfl ?_
        exact s_iret 36 rfl rfl h
      · have hb := Classical.not_not.mp hb
        have b17 := hb
        replace h := h.2 hb
        refine s_iload_n (q := 56) 33 0 rfl rfl ?_
        refine s_goto (tgt := 60) 34 rfl rfl ?_
        exact s_iret 36 rfl rfl h
    · have hb := Classical.not_not.mp hb
      have b15 := hb
      replace h := h.2 hb
      refine s_iload_n (q := 45) 26 1 rfl rfl ?_
      exact s_iret 27 rfl rfl h
  · have hb := Classical.not_not.mp hb
    have b8 := hb
    replace h := h.2 hb
    refine s_iconst (q := 14) 7 rfl ?_
    exact s_iret 8 rfl rfl h
theorem vX6_fieldIn_0 {l : Launch} {G : pG} {bg : Nat × Nat} {n : Nat} {K : Int → Nat × Nat} {F E : Int → Int → Int} {Q : Option pV → pM → Prop} (x0 x1 x2 : Int) (h : (K x0).1 = 6 ∧ (K (F x0 2)).1 = 0 ∧ (-2147483648 ≤ x1 * 6 ∧ x1 * 6 < 2147483648) ∧ (-2147483648 ≤ 12 + (x1 * 6) ∧ 12 + (x1 * 6) < 2147483648) ∧ (-2147483648 ≤ (12 + (x1 * 6)) + 1 ∧ (12 + (x1 * 6)) + 1 < 2147483648) ∧ (K (F (F x0 2) 0)).1 = 20 ∧ ((0 : Int) ≤ (12 + (x1 * 6)) + 1 ∧ (12 + (x1 * 6)) + 1 < ((K (F (F x0 2) 0)).2 : Int)) ∧ ((¬ (E (F (F x0 2) 0) ((12 + (x1 * 6)) + 1)) = x2 → (-2147483648 ≤ (12 + (x1 * 6)) + 4 ∧ (12 + (x1 * 6)) + 4 < 2147483648) ∧ ((0 : Int) ≤ (12 + (x1 * 6)) + 4 ∧ (12 + (x1 * 6)) + 4 < ((K (F (F x0 2) 0)).2 : Int)) ∧ Q (some (0, E (F (F x0 2) 0) ((12 + (x1 * 6)) + 4))) (n, K, F, E)) ∧ ((E (F (F x0 2) 0) ((12 + (x1 * 6)) + 1)) = x2 → (-2147483648 ≤ (12 + (x1 * 6)) + 2 ∧ (12 + (x1 * 6)) + 2 < 2147483648) ∧ ((0 : Int) ≤ (12 + (x1 * 6)) + 2 ∧ (12 + (x1 * 6)) + 2 < ((K (F (F x0 2) 0)).2 : Int)) ∧ Q (some (0, E (F (F x0 2) 0) ((12 + (x1 * 6)) + 2))) (n, K, F, E)))) : PW l G 1 mX6_fieldIn bg 0 [(0, (2, x0)), (1, (0, x1)), (2, (0, x2))] [] (n, K, F, E) Q := by
  refine s_aload_n (q := 1) 0 0 rfl rfl ?_
  obtain ⟨c1, h⟩ := h
  refine n_getf (q := 4) (jj := 2) 1 6 2 rfl kX6_25 c1 ?_
  refine s_iload_n (q := 5) 2 1 rfl rfl ?_
  refine s_iconst (q := 6) 3 rfl ?_
  obtain ⟨c2, h⟩ := h
  refine n_callV (N := mX0_part) (as := [(0, x1), (0, 1)]) (st := []) (q := 9) (d' := 0) 4 rfl uX0_part kX6_85 rfl c2 ?_
  show PW l G 0 mX0_part (0, 0) 0 [(0, (2, F x0 2)), (1, (0, x1)), (2, (0, 1))] [] (n, K, F, E) _
  refine s_aload_n (q := 1) 0 0 rfl rfl ?_
  refine n_getf (q := 4) (jj := 0) 1 0 0 rfl kX0_11 c2 ?_
  refine s_bipush (q := 6) 2 rfl ?_
  refine s_iload_n (q := 7) 3 1 rfl rfl ?_
  refine s_bipush (q := 9) 4 rfl ?_
  obtain ⟨c3, h⟩ := h
  refine n_imul (q := 10) 5 rfl c3 ?_
  obtain ⟨c4, h⟩ := h
  refine n_iadd (q := 11) 6 rfl c4 ?_
  refine s_iload_n (q := 12) 7 2 rfl rfl ?_
  obtain ⟨c5, h⟩ := h
  refine n_iadd (q := 13) 8 rfl c5 ?_
  obtain ⟨c6, h⟩ := h
  obtain ⟨c7, h⟩ := h
  refine n_iald (q := 14) 9 rfl c6 c7 ?_
  refine s_iret 10 rfl rfl ?_
  show PW l G 1 mX6_fieldIn bg 9 [(0, (2, x0)), (1, (0, x1)), (2, (0, x2))] [(0, E (F (F x0 2) 0) ((12 + (x1 * 6)) + 1))] (n, K, F, E) Q
  refine s_iload_n (q := 10) 5 2 rfl rfl ?_
  refine s_icmp_ne (q := 13) (tgt := 25) 6 rfl rfl (fun hb => ?_) (fun hb => ?_)
  · skip
    have b8 := hb
    replace h := h.1 hb
    refine s_aload_n (q := 26) 13 0 rfl rfl ?_
    refine n_getf (q := 29) (jj := 2) 14 6 2 rfl kX6_25 c1 ?_
    refine s_iload_n (q := 30) 15 1 rfl rfl ?_
    refine s_iconst (q := 31) 16 rfl ?_
    refine n_callV (N := mX0_part) (as := [(0, x1), (0, 4)]) (st := []) (q := 34) (d' := 0) 17 rfl uX0_part kX6_85 rfl c2 ?_
    show PW l G 0 mX0_part (0, 0) 0 [(0, (2, F x0 2)), (1, (0, x1)), (2, (0, 4))] [] (n, K, F, E) _
    refine s_aload_n (q := 1) 0 0 rfl rfl ?_
    refine n_getf (q := 4) (jj := 0) 1 0 0 rfl kX0_11 c2 ?_
    refine s_bipush (q := 6) 2 rfl ?_
    refine s_iload_n (q := 7) 3 1 rfl rfl ?_
    refine s_bipush (q := 9) 4 rfl ?_
    refine n_imul (q := 10) 5 rfl c3 ?_
    refine n_iadd (q := 11) 6 rfl c4 ?_
    refine s_iload_n (q := 12) 7 2 rfl rfl ?_
    obtain ⟨c9, h⟩ := h
    refine n_iadd (q := 13) 8 rfl c9 ?_
    obtain ⟨c10, h⟩ := h
    refine n_iald (q := 14) 9 rfl c6 c10 ?_
    refine s_iret 10 rfl rfl ?_
    show PW l G 1 mX6_fieldIn bg 34 [(0, (2, x0)), (1, (0, x1)), (2, (0, x2))] [(0, E (F (F x0 2) 0) ((12 + (x1 * 6)) + 4))] (n, K, F, E) Q
    exact s_iret 18 rfl rfl h
  · have hb := Classical.not_not.mp hb
    have b8 := hb
    replace h := h.2 hb
    refine s_aload_n (q := 14) 7 0 rfl rfl ?_
    refine n_getf (q := 17) (jj := 2) 8 6 2 rfl kX6_25 c1 ?_
    refine s_iload_n (q := 18) 9 1 rfl rfl ?_
    refine s_iconst (q := 19) 10 rfl ?_
    refine n_callV (N := mX0_part) (as := [(0, x1), (0, 2)]) (st := []) (q := 22) (d' := 0) 11 rfl uX0_part kX6_85 rfl c2 ?_
    show PW l G 0 mX0_part (0, 0) 0 [(0, (2, F x0 2)), (1, (0, x1)), (2, (0, 2))] [] (n, K, F, E) _
    refine s_aload_n (q := 1) 0 0 rfl rfl ?_
    refine n_getf (q := 4) (jj := 0) 1 0 0 rfl kX0_11 c2 ?_
    refine s_bipush (q := 6) 2 rfl ?_
    refine s_iload_n (q := 7) 3 1 rfl rfl ?_
    refine s_bipush (q := 9) 4 rfl ?_
    refine n_imul (q := 10) 5 rfl c3 ?_
    refine n_iadd (q := 11) 6 rfl c4 ?_
    refine s_iload_n (q := 12) 7 2 rfl rfl ?_
    obtain ⟨c11, h⟩ := h
    refine n_iadd (q := 13) 8 rfl c11 ?_
    obtain ⟨c12, h⟩ := h
    refine n_iald (q := 14) 9 rfl c6 c12 ?_
    refine s_iret 10 rfl rfl ?_
    show PW l G 1 mX6_fieldIn bg 22 [(0, (2, x0)), (1, (0, x1)), (2, (0, x2))] [(0, E (F (F x0 2) 0) ((12 + (x1 * 6)) + 2))] (n, K, F, E) Q
    refine s_goto (tgt := 34) 12 rfl rfl ?_
    exact s_iret 18 rfl rfl h
