theorem vX12_next_0 {l : Launch} {G : pG} {bg : Nat × Nat} {n : Nat} {K : Int → Nat × Nat} {F E : Int → Int → Int} {Q : Option pV → pM → Prop} (x0 : Int) (h : (K x0).1 = 12 ∧ (∀ F1, F1 = pUp F x0 14 (F x0 15) → PW l G 1 mX12_next bg 8 [(0, (2, x0))] [] (n, K, F1, E) Q)) : PW l G 1 mX12_next bg 0 [(0, (2, x0))] [] (n, K, F, E) Q := by
  refine s_aload_n (q := 1) 0 0 rfl rfl ?_
  refine s_aload_n (q := 2) 1 0 rfl rfl ?_
  obtain ⟨c1, h⟩ := h
  refine n_getf (q := 5) (jj := 15) 2 12 15 rfl kX12_249 c1 ?_
  refine n_putf (q := 8) (jj := 14) 3 12 14 rfl kX12_259 c1 (Or.inl rfl) ?_
  refine PW.nameF (fun F1 eF1 => ?_)
  replace h := h F1 eF1
  refine PW.pick [0] rfl ?_
  exact h
theorem vX12_next_8 {l : Launch} {G : pG} {bg : Nat × Nat} {n : Nat} {K : Int → Nat × Nat} {F E : Int → Int → Int} {Q : Option pV → pM → Prop} (x0 : Int) (h : (K x0).1 = 12 ∧ ((F x0 13 ≤ F x0 14 → (∀ F1, F1 = pUp F x0 15 (F x0 14) → (∀ F2, F2 = pUp F1 x0 17 0 → ((¬ (F x0 14) = F x0 13 → (K (F x0 12)).1 = 20 ∧ ((0 : Int) ≤ F x0 14 ∧ F x0 14 < ((K (F x0 12)).2 : Int)) ∧ ((¬ (97 ≤ E (F x0 12) (F x0 14) ∧ E (F x0 12) (F x0 14) < 123) → ((¬ (48 ≤ E (F x0 12) (F x0 14) ∧ E (F x0 12) (F x0 14) < 58) → (∀ F3, F3 = pUp F2 x0 16 3 → (∀ F4, F4 = pUp F3 x0 17 (E (F x0 12) (F x0 14)) → (-2147483648 ≤ (F x0 14) + 1 ∧ (F x0 14) + 1 < 2147483648) ∧ (∀ F5, F5 = pUp F4 x0 15 ((F x0 14) + 1) → PW l G 1 mX12_next bg 149 [(0, (2, x0))] [] (n, K, F5, E) Q)))) ∧ (48 ≤ E (F x0 12) (F x0 14) ∧ E (F x0 12) (F x0 14) < 58 → (∀ F6, F6 = pUp F2 x0 16 2 → PW l G 1 mX12_next bg 149 [(0, (2, x0))] [] (n, K, F6, E) Q)))) ∧ (97 ≤ E (F x0 12) (F x0 14) ∧ E (F x0 12) (F x0 14) < 123 → (∀ F7, F7 = pUp F2 x0 16 1 → PW l G 1 mX12_next bg 149 [(0, (2, x0))] [] (n, K, F7, E) Q)))) ∧ ((F x0 14) = F x0 13 → (∀ F8, F8 = pUp F2 x0 16 0 → PW l G 1 mX12_next bg 149 [(0, (2, x0))] [] (n, K, F8, E) Q)))))) ∧ (¬ (F x0 13 ≤ F x0 14) → (K (F x0 12)).1 = 20 ∧ ((0 : Int) ≤ F x0 14 ∧ F x0 14 < ((K (F x0 12)).2 : Int)) ∧ ((¬ (E (F x0 12) (F x0 14)) = 32 → (∀ F9, F9 = pUp F x0 15 (F x0 14) → (∀ F10, F10 = pUp F9 x0 17 0 → ((¬ (F x0 14) = F x0 13 → ((¬ (97 ≤ E (F x0 12) (F x0 14) ∧ E (F x0 12) (F x0 14) < 123) → ((¬ (48 ≤ E (F x0 12) (F x0 14) ∧ E (F x0 12) (F x0 14) < 58) → (∀ F11, F11 = pUp F10 x0 16 3 → (∀ F12, F12 = pUp F11 x0 17 (E (F x0 12) (F x0 14)) → (-2147483648 ≤ (F x0 14) + 1 ∧ (F x0 14) + 1 < 2147483648) ∧ (∀ F13, F13 = pUp F12 x0 15 ((F x0 14) + 1) → PW l G 1 mX12_next bg 149 [(0, (2, x0))] [] (n, K, F13, E) Q)))) ∧ (48 ≤ E (F x0 12) (F x0 14) ∧ E (F x0 12) (F x0 14) < 58 → (∀ F14, F14 = pUp F10 x0 16 2 → PW l G 1 mX12_next bg 149 [(0, (2, x0))] [] (n, K, F14, E) Q)))) ∧ (97 ≤ E (F x0 12) (F x0 14) ∧ E (F x0 12) (F x0 14) < 123 → (∀ F15, F15 = pUp F10 x0 16 1 → PW l G 1 mX12_next bg 149 [(0, (2, x0))] [] (n, K, F15, E) Q)))) ∧ ((F x0 14) = F x0 13 → (∀ F16, F16 = pUp F10 x0 16 0 → PW l G 1 mX12_next bg 149 [(0, (2, x0))] [] (n, K, F16, E) Q)))))) ∧ ((E (F x0 12) (F x0 14)) = 32 → (-2147483648 ≤ (F x0 14) + 1 ∧ (F x0 14) + 1 < 2147483648) ∧ (∀ F17, F17 = pUp F x0 14 ((F x0 14) + 1) → PW l G 1 mX12_next bg 8 [(0, (2, x0))] [] (n, K, F17, E) Q)))))) : PW l G 1 mX12_next bg 8 [(0, (2, x0))] [] (n, K, F, E) Q := by
  refine s_aload_n (q := 9) 4 0 rfl rfl ?_
  obtain ⟨c1, h⟩ := h
  refine n_getf (q := 12) (jj := 14) 5 12 14 rfl kX12_259 c1 ?_
  refine s_aload_n (q := 13) 6 0 rfl rfl ?_
  refine n_getf (q := 16) (jj := 13) 7 12 13 rfl kX12_236 c1 ?_
  refine s_icmp_ge (q := 19) (tgt := 46) 8 rfl rfl (fun hb => ?_) (fun hb => ?_)
  · skip
    have b2 := hb
    replace h := h.1 hb
    refine s_aload_n (q := 47) 23 0 rfl rfl ?_
    refine s_aload_n (q := 48) 24 0 rfl rfl ?_
    refine n_getf (q := 51) (jj := 14) 25 12 14 rfl kX12_259 c1 ?_
    refine n_putf (q := 54) (jj := 15) 26 12 15 rfl kX12_249 c1 (Or.inl rfl) ?_
    refine PW.nameF (fun F1 eF1 => ?_)
    replace h := h F1 eF1
    refine s_aload_n (q := 55) 27 0 rfl rfl ?_
    refine s_lconst (q := 56) (x := 0) 28 rfl ?_
    refine n_putf (q := 59) (jj := 17) 29 12 17 rfl kX12_262 c1 (Or.inr (Or.inl rfl)) ?_
    refine PW.nameF (fun F2 eF2 => ?_)
    replace h := h F2 eF2
    refine s_aload_n (q := 60) 30 0 rfl rfl ?_
    refine s_aload_n (q := 61) 31 0 rfl rfl ?_
    refine n_getf (q := 64) (jj := 14) 32 12 14 rfl kX12_259 c1 ?_
    refine PW.top (b := F x0 14) (by refine (congrFun (congrFun eF2 _) _).trans ((pUp_k (by decide)).trans ?_); exact (congrFun (congrFun eF1 _) _).trans (pUp_k (by decide))) ?_
    refine s_aload_n (q := 65) 33 0 rfl rfl ?_
    refine n_getf (q := 68) (jj := 13) 34 12 13 rfl kX12_236 c1 ?_
    refine PW.top (b := F x0 13) (by refine (congrFun (congrFun eF2 _) _).trans ((pUp_k (by decide)).trans ?_); exact (congrFun (congrFun eF1 _) _).trans (pUp_k (by decide))) ?_
    refine s_icmp_ne (q := 71) (tgt := 75) 35 rfl rfl (fun hb => ?_) (fun hb => ?_)
    · skip
      have b3 := hb
      replace h := h.1 hb
      refine s_aload_n (q := 76) 38 0 rfl rfl ?_
      refine n_getf (q := 79) (jj := 12) 39 12 12 rfl kX12_35 c1 ?_
      refine PW.top (b := F x0 12) (by refine (congrFun (congrFun eF2 _) _).trans ((pUp_k (by decide)).trans ?_); exact (congrFun (congrFun eF1 _) _).trans (pUp_k (by decide))) ?_
      refine s_aload_n (q := 80) 40 0 rfl rfl ?_
      refine n_getf (q := 83) (jj := 14) 41 12 14 rfl kX12_259 c1 ?_
      refine PW.top (b := F x0 14) (by refine (congrFun (congrFun eF2 _) _).trans ((pUp_k (by decide)).trans ?_); exact (congrFun (congrFun eF1 _) _).trans (pUp_k (by decide))) ?_
      obtain ⟨c4, h⟩ := h
      obtain ⟨c5, h⟩ := h
      refine n_iald (q := 84) 42 rfl c4 c5 ?_
      refine n_callS (N := mX12_isSmall) (as := [(0, E (F x0 12) (F x0 14))]) (st := [(2, x0)]) (q := 87) (d' := 0) 43 rfl uX12_isSmall kX12_266 rfl (pX12_isSmall ?_)
      show PW l G 1 mX12_next bg 87 [(0, (2, x0))] [(0, bI (97 ≤ E (F x0 12) (F x0 14) ∧ E (F x0 12) (F x0 14) < 123)), (2, x0)] (n, K, F2, E) Q
      refine s_if_eq (q := 90) (tgt := 94) 44 rfl rfl (fun hb => ?_) (fun hb => ?_)
      · have hb := bI_f hb
        have b6 := hb
        replace h := h.1 hb
        refine s_aload_n (q := 95) 47 0 rfl rfl ?_
        refine n_getf (q := 98) (jj := 12) 48 12 12 rfl kX12_35 c1 ?_
        refine PW.top (b := F x0 12) (by refine (congrFun (congrFun eF2 _) _).trans ((pUp_k (by decide)).trans ?_); exact (congrFun (congrFun eF1 _) _).trans (pUp_k (by decide))) ?_
        refine s_aload_n (q := 99) 49 0 rfl rfl ?_
        refine n_getf (q := 102) (jj := 14) 50 12 14 rfl kX12_259 c1 ?_
        refine PW.top (b := F x0 14) (by refine (congrFun (congrFun eF2 _) _).trans ((pUp_k (by decide)).trans ?_); exact (congrFun (congrFun eF1 _) _).trans (pUp_k (by decide))) ?_
        refine n_iald (q := 103) 51 rfl c4 c5 ?_
        refine n_callS (N := mX12_isDigit) (as := [(0, E (F x0 12) (F x0 14))]) (st := [(2, x0)]) (q := 106) (d' := 0) 52 rfl uX12_isDigit kX12_269 rfl (pX12_isDigit ?_)
        show PW l G 1 mX12_next bg 106 [(0, (2, x0))] [(0, bI (48 ≤ E (F x0 12) (F x0 14) ∧ E (F x0 12) (F x0 14) < 58)), (2, x0)] (n, K, F2, E) Q
        refine s_if_eq (q := 109) (tgt := 113) 53 rfl rfl (fun hb => ?_) (fun hb => ?_)
        · have hb := bI_f hb
          have b7 := hb
          replace h := h.1 hb
          refine s_iconst (q := 114) 56 rfl ?_
          refine n_putf (q := 117) (jj := 16) 57 12 16 rfl kX12_272 c1 (Or.inl rfl) ?_
          refine PW.nameF (fun F3 eF3 => ?_)
          replace h := h F3 eF3
          refine s_aload_n (q := 118) 58 0 rfl rfl ?_
          refine n_getf (q := 121) (jj := 16) 59 12 16 rfl kX12_272 c1 ?_
          refine PW.top (b := 3) (by exact (congrFun (congrFun eF3 _) _).trans pUp_s) ?_
          refine s_iconst (q := 122) 60 rfl ?_
          refine s_icmp_ne (q := 125) (tgt := 149) 61 rfl rfl (fun hb => absurd hb (by decide)) (fun _ => ?_)
          refine s_aload_n (q := 126) 62 0 rfl rfl ?_
          refine s_aload_n (q := 127) 63 0 rfl rfl ?_
          refine n_getf (q := 130) (jj := 12) 64 12 12 rfl kX12_35 c1 ?_
          refine PW.top (b := F x0 12) (by refine (congrFun (congrFun eF3 _) _).trans ((pUp_k (by decide)).trans ?_); refine (congrFun (congrFun eF2 _) _).trans ((pUp_k (by decide)).trans ?_); exact (congrFun (congrFun eF1 _) _).trans (pUp_k (by decide))) ?_
          refine s_aload_n (q := 131) 65 0 rfl rfl ?_
          refine n_getf (q := 134) (jj := 14) 66 12 14 rfl kX12_259 c1 ?_
          refine PW.top (b := F x0 14) (by refine (congrFun (congrFun eF3 _) _).trans ((pUp_k (by decide)).trans ?_); refine (congrFun (congrFun eF2 _) _).trans ((pUp_k (by decide)).trans ?_); exact (congrFun (congrFun eF1 _) _).trans (pUp_k (by decide))) ?_
          refine n_iald (q := 135) 67 rfl c4 c5 ?_
          refine s_i2l (q := 136) 68 rfl ?_
          refine n_putf (q := 139) (jj := 17) 69 12 17 rfl kX12_262 c1 (Or.inr (Or.inl rfl)) ?_
          refine PW.nameF (fun F4 eF4 => ?_)
          replace h := h F4 eF4
          refine s_aload_n (q := 140) 70 0 rfl rfl ?_
          refine s_dup (q := 141) 71 rfl ?_
          refine n_getf (q := 144) (jj := 15) 72 12 15 rfl kX12_249 c1 ?_
          refine PW.top (b := F x0 14) (by refine (congrFun (congrFun eF4 _) _).trans ((pUp_k (by decide)).trans ?_); refine (congrFun (congrFun eF3 _) _).trans ((pUp_k (by decide)).trans ?_); refine (congrFun (congrFun eF2 _) _).trans ((pUp_k (by decide)).trans ?_); exact (congrFun (congrFun eF1 _) _).trans pUp_s) ?_
          refine s_iconst (q := 145) 73 rfl ?_
          obtain ⟨c8, h⟩ := h
          refine n_iadd (q := 146) 74 rfl c8 ?_
          refine n_putf (q := 149) (jj := 15) 75 12 15 rfl kX12_249 c1 (Or.inl rfl) ?_
          refine PW.nameF (fun F5 eF5 => ?_)
          replace h := h F5 eF5
          refine PW.pick [0] rfl ?_
          exact h
        · have hb := bI_t hb
          have b7 := hb
          replace h := h.2 hb
          refine s_iconst (q := 110) 54 rfl ?_
          refine s_goto (tgt := 114) 55 rfl rfl ?_
          refine n_putf (q := 117) (jj := 16) 57 12 16 rfl kX12_272 c1 (Or.inl rfl) ?_
          refine PW.nameF (fun F6 eF6 => ?_)
          replace h := h F6 eF6
          refine s_aload_n (q := 118) 58 0 rfl rfl ?_
          refine n_getf (q := 121) (jj := 16) 59 12 16 rfl kX12_272 c1 ?_
          refine PW.top (b := 2) (by exact (congrFun (congrFun eF6 _) _).trans pUp_s) ?_
          refine s_iconst (q := 122) 60 rfl ?_
          refine s_icmp_ne (q := 125) (tgt := 149) 61 rfl rfl (fun _ => ?_) (fun hb => absurd (by decide) hb)
          refine PW.pick [0] rfl ?_
          exact h
      · have hb := bI_t hb
        have b6 := hb
        replace h := h.2 hb
        refine s_iconst (q := 91) 45 rfl ?_
        refine s_goto (tgt := 114) 46 rfl rfl ?_
        refine n_putf (q := 117) (jj := 16) 57 12 16 rfl kX12_272 c1 (Or.inl rfl) ?_
        refine PW.nameF (fun F7 eF7 => ?_)
        replace h := h F7 eF7
        refine s_aload_n (q := 118) 58 0 rfl rfl ?_
        refine n_getf (q := 121) (jj := 16) 59 12 16 rfl kX12_272 c1 ?_
        refine PW.top (b := 1) (by exact (congrFun (congrFun eF7 _) _).trans pUp_s) ?_
        refine s_iconst (q := 122) 60 rfl ?_
        refine s_icmp_ne (q := 125) (tgt := 149) 61 rfl rfl (fun _ => ?_) (fun hb => absurd (by decide) hb)
        refine PW.pick [0] rfl ?_
        exact h
    · have hb := Classical.not_not.mp hb
      have b3 := hb
      replace h := h.2 hb
      refine s_iconst (q := 72) 36 rfl ?_
      refine s_goto (tgt := 114) 37 rfl rfl ?_
      refine n_putf (q := 117) (jj := 16) 57 12 16 rfl kX12_272 c1 (Or.inl rfl) ?_
      refine PW.nameF (fun F8 eF8 => ?_)
      replace h := h F8 eF8
      refine s_aload_n (q := 118) 58 0 rfl rfl ?_
      refine n_getf (q := 121) (jj := 16) 59 12 16 rfl kX12_272 c1 ?_
      refine PW.top (b := 0) (by exact (congrFun (congrFun eF8 _) _).trans pUp_s) ?_
      refine s_iconst (q := 122) 60 rfl ?_
      refine s_icmp_ne (q := 125) (tgt := 149) 61 rfl rfl (fun _ => ?_) (fun hb => absurd (by decide) hb)
      refine PW.pick [0] rfl ?_
      exact h
  · skip
    have b2 := hb
    replace h := h.2 hb
    refine s_aload_n (q := 20) 9 0 rfl rfl ?_
    refine n_getf (q := 23) (jj := 12) 10 12 12 rfl kX12_35 c1 ?_
    refine s_aload_n (q := 24) 11 0 rfl rfl ?_
    refine n_getf (q := 27) (jj := 14) 12 12 14 rfl kX12_259 c1 ?_
    obtain ⟨c9, h⟩ := h
    obtain ⟨c10, h⟩ := h
    refine n_iald (q := 28) 13 rfl c9 c10 ?_
    refine s_bipush (q := 30) 14 rfl ?_
    refine s_icmp_ne (q := 33) (tgt := 46) 15 rfl rfl (fun hb => ?_) (fun hb => ?_)
    · skip
      have b11 := hb
      replace h := h.1 hb
      refine s_aload_n (q := 47) 23 0 rfl rfl ?_
      refine s_aload_n (q := 48) 24 0 rfl rfl ?_
      refine n_getf (q := 51) (jj := 14) 25 12 14 rfl kX12_259 c1 ?_
      refine n_putf (q := 54) (jj := 15) 26 12 15 rfl kX12_249 c1 (Or.inl rfl) ?_
      refine PW.nameF (fun F9 eF9 => ?_)
      replace h := h F9 eF9
      refine s_aload_n (q := 55) 27 0 rfl rfl ?_
      refine s_lconst (q := 56) (x := 0) 28 rfl ?_
      refine n_putf (q := 59) (jj := 17) 29 12 17 rfl kX12_262 c1 (Or.inr (Or.inl rfl)) ?_
      refine PW.nameF (fun F10 eF10 => ?_)
      replace h := h F10 eF10
      refine s_aload_n (q := 60) 30 0 rfl rfl ?_
      refine s_aload_n (q := 61) 31 0 rfl rfl ?_
      refine n_getf (q := 64) (jj := 14) 32 12 14 rfl kX12_259 c1 ?_
      refine PW.top (b := F x0 14) (by refine (congrFun (congrFun eF10 _) _).trans ((pUp_k (by decide)).trans ?_); exact (congrFun (congrFun eF9 _) _).trans (pUp_k (by decide))) ?_
      refine s_aload_n (q := 65) 33 0 rfl rfl ?_
      refine n_getf (q := 68) (jj := 13) 34 12 13 rfl kX12_236 c1 ?_
      refine PW.top (b := F x0 13) (by refine (congrFun (congrFun eF10 _) _).trans ((pUp_k (by decide)).trans ?_); exact (congrFun (congrFun eF9 _) _).trans (pUp_k (by decide))) ?_
      refine s_icmp_ne (q := 71) (tgt := 75) 35 rfl rfl (fun hb => ?_) (fun hb => ?_)
      · skip
        have b12 := hb
        replace h := h.1 hb
        refine s_aload_n (q := 76) 38 0 rfl rfl ?_
        refine n_getf (q := 79) (jj := 12) 39 12 12 rfl kX12_35 c1 ?_
        refine PW.top (b := F x0 12) (by refine (congrFun (congrFun eF10 _) _).trans ((pUp_k (by decide)).trans ?_); exact (congrFun (congrFun eF9 _) _).trans (pUp_k (by decide))) ?_
        refine s_aload_n (q := 80) 40 0 rfl rfl ?_
        refine n_getf (q := 83) (jj := 14) 41 12 14 rfl kX12_259 c1 ?_
        refine PW.top (b := F x0 14) (by refine (congrFun (congrFun eF10 _) _).trans ((pUp_k (by decide)).trans ?_); exact (congrFun (congrFun eF9 _) _).trans (pUp_k (by decide))) ?_
        refine n_iald (q := 84) 42 rfl c9 c10 ?_
        refine n_callS (N := mX12_isSmall) (as := [(0, E (F x0 12) (F x0 14))]) (st := [(2, x0)]) (q := 87) (d' := 0) 43 rfl uX12_isSmall kX12_266 rfl (pX12_isSmall ?_)
        show PW l G 1 mX12_next bg 87 [(0, (2, x0))] [(0, bI (97 ≤ E (F x0 12) (F x0 14) ∧ E (F x0 12) (F x0 14) < 123)), (2, x0)] (n, K, F10, E) Q
        refine s_if_eq (q := 90) (tgt := 94) 44 rfl rfl (fun hb => ?_) (fun hb => ?_)
        · have hb := bI_f hb
          have b13 := hb
          replace h := h.1 hb
          refine s_aload_n (q := 95) 47 0 rfl rfl ?_
          refine n_getf (q := 98) (jj := 12) 48 12 12 rfl kX12_35 c1 ?_
          refine PW.top (b := F x0 12) (by refine (congrFun (congrFun eF10 _) _).trans ((pUp_k (by decide)).trans ?_); exact (congrFun (congrFun eF9 _) _).trans (pUp_k (by decide))) ?_
          refine s_aload_n (q := 99) 49 0 rfl rfl ?_
          refine n_getf (q := 102) (jj := 14) 50 12 14 rfl kX12_259 c1 ?_
          refine PW.top (b := F x0 14) (by refine (congrFun (congrFun eF10 _) _).trans ((pUp_k (by decide)).trans ?_); exact (congrFun (congrFun eF9 _) _).trans (pUp_k (by decide))) ?_
          refine n_iald (q := 103) 51 rfl c9 c10 ?_
          refine n_callS (N := mX12_isDigit) (as := [(0, E (F x0 12) (F x0 14))]) (st := [(2, x0)]) (q := 106) (d' := 0) 52 rfl uX12_isDigit kX12_269 rfl (pX12_isDigit ?_)
          show PW l G 1 mX12_next bg 106 [(0, (2, x0))] [(0, bI (48 ≤ E (F x0 12) (F x0 14) ∧ E (F x0 12) (F x0 14) < 58)), (2, x0)] (n, K, F10, E) Q
          refine s_if_eq (q := 109) (tgt := 113) 53 rfl rfl (fun hb => ?_) (fun hb => ?_)
          · have hb := bI_f hb
            have b14 := hb
            replace h := h.1 hb
            refine s_iconst (q := 114) 56 rfl ?_
            refine n_putf (q := 117) (jj := 16) 57 12 16 rfl kX12_272 c1 (Or.inl rfl) ?_
            refine PW.nameF (fun F11 eF11 => ?_)
            replace h := h F11 eF11
            refine s_aload_n (q := 118) 58 0 rfl rfl ?_
            refine n_getf (q := 121) (jj := 16) 59 12 16 rfl kX12_272 c1 ?_
            refine PW.top (b := 3) (by exact (congrFun (congrFun eF11 _) _).trans pUp_s) ?_
            refine s_iconst (q := 122) 60 rfl ?_
            refine s_icmp_ne (q := 125) (tgt := 149) 61 rfl rfl (fun hb => absurd hb (by decide)) (fun _ => ?_)
            refine s_aload_n (q := 126) 62 0 rfl rfl ?_
            refine s_aload_n (q := 127) 63 0 rfl rfl ?_
            refine n_getf (q := 130) (jj := 12) 64 12 12 rfl kX12_35 c1 ?_
            refine PW.top (b := F x0 12) (by refine (congrFun (congrFun eF11 _) _).trans ((pUp_k (by decide)).trans ?_); refine (congrFun (congrFun eF10 _) _).trans ((pUp_k (by decide)).trans ?_); exact (congrFun (congrFun eF9 _) _).trans (pUp_k (by decide))) ?_
            refine s_aload_n (q := 131) 65 0 rfl rfl ?_
            refine n_getf (q := 134) (jj := 14) 66 12 14 rfl kX12_259 c1 ?_
            refine PW.top (b := F x0 14) (by refine (congrFun (congrFun eF11 _) _).trans ((pUp_k (by decide)).trans ?_); refine (congrFun (congrFun eF10 _) _).trans ((pUp_k (by decide)).trans ?_); exact (congrFun (congrFun eF9 _) _).trans (pUp_k (by decide))) ?_
            refine n_iald (q := 135) 67 rfl c9 c10 ?_
            refine s_i2l (q := 136) 68 rfl ?_
            refine n_putf (q := 139) (jj := 17) 69 12 17 rfl kX12_262 c1 (Or.inr (Or.inl rfl)) ?_
            refine PW.nameF (fun F12 eF12 => ?_)
            replace h := h F12 eF12
            refine s_aload_n (q := 140) 70 0 rfl rfl ?_
            refine s_dup (q := 141) 71 rfl ?_
            refine n_getf (q := 144) (jj := 15) 72 12 15 rfl kX12_249 c1 ?_
            refine PW.top (b := F x0 14) (by refine (congrFun (congrFun eF12 _) _).trans ((pUp_k (by decide)).trans ?_); refine (congrFun (congrFun eF11 _) _).trans ((pUp_k (by decide)).trans ?_); refine (congrFun (congrFun eF10 _) _).trans ((pUp_k (by decide)).trans ?_); exact (congrFun (congrFun eF9 _) _).trans pUp_s) ?_
            refine s_iconst (q := 145) 73 rfl ?_
            obtain ⟨c15, h⟩ := h
            refine n_iadd (q := 146) 74 rfl c15 ?_
            refine n_putf (q := 149) (jj := 15) 75 12 15 rfl kX12_249 c1 (Or.inl rfl) ?_
            refine PW.nameF (fun F13 eF13 => ?_)
            replace h := h F13 eF13
            refine PW.pick [0] rfl ?_
            exact h
          · have hb := bI_t hb
            have b14 := hb
            replace h := h.2 hb
            refine s_iconst (q := 110) 54 rfl ?_
            refine s_goto (tgt := 114) 55 rfl rfl ?_
            refine n_putf (q := 117) (jj := 16) 57 12 16 rfl kX12_272 c1 (Or.inl rfl) ?_
            refine PW.nameF (fun F14 eF14 => ?_)
            replace h := h F14 eF14
            refine s_aload_n (q := 118) 58 0 rfl rfl ?_
            refine n_getf (q := 121) (jj := 16) 59 12 16 rfl kX12_272 c1 ?_
            refine PW.top (b := 2) (by exact (congrFun (congrFun eF14 _) _).trans pUp_s) ?_
            refine s_iconst (q := 122) 60 rfl ?_
            refine s_icmp_ne (q := 125) (tgt := 149) 61 rfl rfl (fun _ => ?_) (fun hb => absurd (by decide) hb)
            refine PW.pick [0] rfl ?_
            exact h
        · have hb := bI_t hb
          have b13 := hb
          replace h := h.2 hb
          refine s_iconst (q := 91) 45 rfl ?_
          refine s_goto (tgt := 114) 46 rfl rfl ?_
          refine n_putf (q := 117) (jj := 16) 57 12 16 rfl kX12_272 c1 (Or.inl rfl) ?_
          refine PW.nameF (fun F15 eF15 => ?_)
          replace h := h F15 eF15
          refine s_aload_n (q := 118) 58 0 rfl rfl ?_
          refine n_getf (q := 121) (jj := 16) 59 12 16 rfl kX12_272 c1 ?_
          refine PW.top (b := 1) (by exact (congrFun (congrFun eF15 _) _).trans pUp_s) ?_
          refine s_iconst (q := 122) 60 rfl ?_
          refine s_icmp_ne (q := 125) (tgt := 149) 61 rfl rfl (fun _ => ?_) (fun hb => absurd (by decide) hb)
          refine PW.pick [0] rfl ?_
          exact h
      · have hb := Classical.not_not.mp hb
        have b12 := hb
        replace h := h.2 hb
        refine s_iconst (q := 72) 36 rfl ?_
        refine s_goto (tgt := 114) 37 rfl rfl ?_
        refine n_putf (q := 117) (jj := 16) 57 12 16 rfl kX12_272 c1 (Or.inl rfl) ?_
        refine PW.nameF (fun F16 eF16 => ?_)
        replace h := h F16 eF16
        refine s_aload_n (q := 118) 58 0 rfl rfl ?_
        refine n_getf (q := 121) (jj := 16) 59 12 16 rfl kX12_272 c1 ?_
        refine PW.top (b := 0) (by exact (congrFun (congrFun eF16 _) _).trans pUp_s) ?_
        refine s_iconst (q := 122) 60 rfl ?_
        refine s_icmp_ne (q := 125) (tgt := 149) 61 rfl rfl (fun _ => ?_) (fun hb => absurd (by decide) hb)
        refine PW.pick [0] rfl ?_
        exact h
    · have hb := Classical.not_not.mp hb
      have b11 := hb
      replace h := h.2 hb
      refine s_aload_n (q := 34) 16 0 rfl rfl ?_
      refine s_dup (q := 35) 17 rfl ?_
      refine n_getf (q := 38) (jj := 14) 18 12 14 rfl kX12_259 c1 ?_
      refine s_iconst (q := 39) 19 rfl ?_
      obtain ⟨c16, h⟩ := h
      refine n_iadd (q := 40) 20 rfl c16 ?_
      refine n_putf (q := 43) (jj := 14) 21 12 14 rfl kX12_259 c1 (Or.inl rfl) ?_
      refine PW.nameF (fun F17 eF17 => ?_)
      replace h := h F17 eF17
      refine s_goto (tgt := 8) 22 rfl rfl ?_
      refine PW.pick [0] rfl ?_
      exact h
theorem vX12_next_149 {l : Launch} {G : pG} {bg : Nat × Nat} {n : Nat} {K : Int → Nat × Nat} {F E : Int → Int → Int} {Q : Option pV → pM → Prop} (x0 : Int) (h : (K x0).1 = 12 ∧ ((¬ (F x0 16) = 1 → PW l G 1 mX12_next bg 243 [(0, (2, x0))] [] (n, K, F, E) Q) ∧ ((F x0 16) = 1 → ((F x0 13 ≤ F x0 15 → PW l G 1 mX12_next bg 243 [(0, (2, x0))] [] (n, K, F, E) Q) ∧ (¬ (F x0 13 ≤ F x0 15) → (K (F x0 12)).1 = 20 ∧ ((0 : Int) ≤ F x0 15 ∧ F x0 15 < ((K (F x0 12)).2 : Int)) ∧ ((¬ (97 ≤ E (F x0 12) (F x0 15) ∧ E (F x0 12) (F x0 15) < 123) → PW l G 1 mX12_next bg 243 [(0, (2, x0))] [] (n, K, F, E) Q) ∧ (97 ≤ E (F x0 12) (F x0 15) ∧ E (F x0 12) (F x0 15) < 123 → (-2147483648 ≤ (F x0 15) - (F x0 14) ∧ (F x0 15) - (F x0 14) < 2147483648) ∧ ((10 ≤ (F x0 15) - (F x0 14) → (∀ F1, F1 = pUp F x0 17 (-1) → (-2147483648 ≤ (F x0 15) + 1 ∧ (F x0 15) + 1 < 2147483648) ∧ (∀ F2, F2 = pUp F1 x0 15 ((F x0 15) + 1) → PW l G 1 mX12_next bg 149 [(0, (2, x0))] [] (n, K, F2, E) Q))) ∧ (¬ (10 ≤ (F x0 15) - (F x0 14)) → (-9223372036854775808 ≤ (w64 ((F x0 17) * 32)) + (E (F x0 12) (F x0 15)) ∧ (w64 ((F x0 17) * 32)) + (E (F x0 12) (F x0 15)) < 9223372036854775808) ∧ (∀ a3, a3 = (w64 ((F x0 17) * 32)) + (E (F x0 12) (F x0 15)) → (-9223372036854775808 ≤ a3 - 96 ∧ a3 - 96 < 9223372036854775808) ∧ (∀ F4, F4 = pUp F x0 17 (a3 - 96) → (-2147483648 ≤ (F x0 15) + 1 ∧ (F x0 15) + 1 < 2147483648) ∧ (∀ F5, F5 = pUp F4 x0 15 ((F x0 15) + 1) → PW l G 1 mX12_next bg 149 [(0, (2, x0))] [] (n, K, F5, E) Q)))))))))))) : PW l G 1 mX12_next bg 149 [(0, (2, x0))] [] (n, K, F, E) Q := by
  refine s_aload_n (q := 150) 76 0 rfl rfl ?_
  obtain ⟨c1, h⟩ := h
  refine n_getf (q := 153) (jj := 16) 77 12 16 rfl kX12_272 c1 ?_
  refine s_iconst (q := 154) 78 rfl ?_
  refine s_icmp_ne (q := 157) (tgt := 243) 79 rfl rfl (fun hb => ?_) (fun hb => ?_)
  · skip
    have b2 := hb
    replace h := h.1 hb
    refine PW.pick [0] rfl ?_
    exact h
  · have hb := Classical.not_not.mp hb
    have b2 := hb
    replace h := h.2 hb
    refine s_aload_n (q := 158) 80 0 rfl rfl ?_
    refine n_getf (q := 161) (jj := 15) 81 12 15 rfl kX12_249 c1 ?_
    refine s_aload_n (q := 162) 82 0 rfl rfl ?_
    refine n_getf (q := 165) (jj := 13) 83 12 13 rfl kX12_236 c1 ?_
    refine s_icmp_ge (q := 168) (tgt := 243) 84 rfl rfl (fun hb => ?_) (fun hb => ?_)
    · skip
      have b3 := hb
      replace h := h.1 hb
      refine PW.pick [0] rfl ?_
      exact h
    · skip
      have b3 := hb
      replace h := h.2 hb
      refine s_aload_n (q := 169) 85 0 rfl rfl ?_
      refine n_getf (q := 172) (jj := 12) 86 12 12 rfl kX12_35 c1 ?_
      refine s_aload_n (q := 173) 87 0 rfl rfl ?_
      refine n_getf (q := 176) (jj := 15) 88 12 15 rfl kX12_249 c1 ?_
      obtain ⟨c4, h⟩ := h
      obtain ⟨c5, h⟩ := h
      refine n_iald (q := 177) 89 rfl c4 c5 ?_
      refine n_callS (N := mX12_isSmall) (as := [(0, E (F x0 12) (F x0 15))]) (st := []) (q := 180) (d' := 0) 90 rfl uX12_isSmall kX12_266 rfl (pX12_isSmall ?_)
      show PW l G 1 mX12_next bg 180 [(0, (2, x0))] [(0, bI (97 ≤ E (F x0 12) (F x0 15) ∧ E (F x0 12) (F x0 15) < 123))] (n, K, F, E) Q
      refine s_if_eq (q := 183) (tgt := 243) 91 rfl rfl (fun hb => ?_) (fun hb => ?_)
      · have hb := bI_f hb
        have b6 := hb
        replace h := h.1 hb
        refine PW.pick [0] rfl ?_
        exact h
      · have hb := bI_t hb
        have b6 := hb
        replace h := h.2 hb
        refine s_aload_n (q := 184) 92 0 rfl rfl ?_
        refine s_aload_n (q := 185) 93 0 rfl rfl ?_
        refine n_getf (q := 188) (jj := 15) 94 12 15 rfl kX12_249 c1 ?_
        refine s_aload_n (q := 189) 95 0 rfl rfl ?_
        refine n_getf (q := 192) (jj := 14) 96 12 14 rfl kX12_259 c1 ?_
        obtain ⟨c7, h⟩ := h
        refine n_isub (q := 193) 97 rfl c7 ?_
        refine s_bipush (q := 195) 98 rfl ?_
        refine s_icmp_ge (q := 198) (tgt := 224) 99 rfl rfl (fun hb => ?_) (fun hb => ?_)
        · skip
          have b8 := hb
          replace h := h.1 hb
          refine s_ldc2 (q := 227) (x := (-1)) 114 rfl kX12_279 ?_
          refine n_putf (q := 230) (jj := 17) 115 12 17 rfl kX12_262 c1 (Or.inr (Or.inl rfl)) ?_
          refine PW.nameF (fun F1 eF1 => ?_)
          replace h := h F1 eF1
          refine s_aload_n (q := 231) 116 0 rfl rfl ?_
          refine s_dup (q := 232) 117 rfl ?_
          refine n_getf (q := 235) (jj := 15) 118 12 15 rfl kX12_249 c1 ?_
          refine PW.top (b := F x0 15) (by exact (congrFun (congrFun eF1 _) _).trans (pUp_k (by decide))) ?_
          refine s_iconst (q := 236) 119 rfl ?_
          obtain ⟨c9, h⟩ := h
          refine n_iadd (q := 237) 120 rfl c9 ?_
          refine n_putf (q := 240) (jj := 15) 121 12 15 rfl kX12_249 c1 (Or.inl rfl) ?_
          refine PW.nameF (fun F2 eF2 => ?_)
          replace h := h F2 eF2
          refine s_goto (tgt := 149) 122 rfl rfl ?_
          refine PW.pick [0] rfl ?_
          exact h
        · skip
          have b8 := hb
          replace h := h.2 hb
          refine s_aload_n (q := 199) 100 0 rfl rfl ?_
          refine n_getf (q := 202) (jj := 17) 101 12 17 rfl kX12_262 c1 ?_
          refine s_ldc2 (q := 205) (x := 32) 102 rfl kX12_275 ?_
          refine s_lmul (q := 206) 103 rfl ?_
          refine s_aload_n (q := 207) 104 0 rfl rfl ?_
          refine n_getf (q := 210) (jj := 12) 105 12 12 rfl kX12_35 c1 ?_
          refine s_aload_n (q := 211) 106 0 rfl rfl ?_
          refine n_getf (q := 214) (jj := 15) 107 12 15 rfl kX12_249 c1 ?_
          refine n_iald (q := 215) 108 rfl c4 c5 ?_
          refine s_i2l (q := 216) 109 rfl ?_
          obtain ⟨c10, h⟩ := h
          refine n_ladd (q := 217) 110 rfl c10 ?_
          refine PW.name (fun a3 ea3 => ?_)
          replace h := h a3 ea3
          refine s_ldc2 (q := 220) (x := 96) 111 rfl kX12_277 ?_
          obtain ⟨c11, h⟩ := h
          refine n_lsub (q := 221) 112 rfl c11 ?_
          refine s_goto (tgt := 227) 113 rfl rfl ?_
          refine n_putf (q := 230) (jj := 17) 115 12 17 rfl kX12_262 c1 (Or.inr (Or.inl rfl)) ?_
          refine PW.nameF (fun F4 eF4 => ?_)
          replace h := h F4 eF4
          refine s_aload_n (q := 231) 116 0 rfl rfl ?_
          refine s_dup (q := 232) 117 rfl ?_
          refine n_getf (q := 235) (jj := 15) 118 12 15 rfl kX12_249 c1 ?_
          refine PW.top (b := F x0 15) (by exact (congrFun (congrFun eF4 _) _).trans (pUp_k (by decide))) ?_
          refine s_iconst (q := 236) 119 rfl ?_
          obtain ⟨c12, h⟩ := h
          refine n_iadd (q := 237) 120 rfl c12 ?_
          refine n_putf (q := 240) (jj := 15) 121 12 15 rfl kX12_249 c1 (Or.inl rfl) ?_
          refine PW.nameF (fun F5 eF5 => ?_)
          replace h := h F5 eF5
          refine s_goto (tgt := 149) 122 rfl rfl ?_
          refine PW.pick [0] rfl ?_
          exact h
theorem vX12_next_243 {l : Launch} {G : pG} {bg : Nat × Nat} {n : Nat} {K : Int → Nat × Nat} {F E : Int → Int → Int} {Q : Option pV → pM → Prop} (x0 : Int) (h : (K x0).1 = 12 ∧ ((¬ (F x0 16) = 2 → Q none (n, K, F, E)) ∧ ((F x0 16) = 2 → ((F x0 13 ≤ F x0 15 → Q none (n, K, F, E)) ∧ (¬ (F x0 13 ≤ F x0 15) → (K (F x0 12)).1 = 20 ∧ ((0 : Int) ≤ F x0 15 ∧ F x0 15 < ((K (F x0 12)).2 : Int)) ∧ ((¬ (48 ≤ E (F x0 12) (F x0 15) ∧ E (F x0 12) (F x0 15) < 58) → Q none (n, K, F, E)) ∧ (48 ≤ E (F x0 12) (F x0 15) ∧ E (F x0 12) (F x0 15) < 58 → ((F x0 17 ≤ 1000000 → (-9223372036854775808 ≤ (w64 ((F x0 17) * 10)) + (E (F x0 12) (F x0 15)) ∧ (w64 ((F x0 17) * 10)) + (E (F x0 12) (F x0 15)) < 9223372036854775808) ∧ (∀ a1, a1 = (w64 ((F x0 17) * 10)) + (E (F x0 12) (F x0 15)) → (-9223372036854775808 ≤ a1 - 48 ∧ a1 - 48 < 9223372036854775808) ∧ (∀ F2, F2 = pUp F x0 17 (a1 - 48) → (-2147483648 ≤ (F x0 15) + 1 ∧ (F x0 15) + 1 < 2147483648) ∧ (∀ F3, F3 = pUp F2 x0 15 ((F x0 15) + 1) → PW l G 1 mX12_next bg 243 [(0, (2, x0))] [] (n, K, F3, E) Q)))) ∧ (¬ (F x0 17 ≤ 1000000) → (∀ F4, F4 = pUp F x0 17 (F x0 17) → (-2147483648 ≤ (F x0 15) + 1 ∧ (F x0 15) + 1 < 2147483648) ∧ (∀ F5, F5 = pUp F4 x0 15 ((F x0 15) + 1) → PW l G 1 mX12_next bg 243 [(0, (2, x0))] [] (n, K, F5, E) Q))))))))))) : PW l G 1 mX12_next bg 243 [(0, (2, x0))] [] (n, K, F, E) Q := by
  refine s_aload_n (q := 244) 123 0 rfl rfl ?_
  obtain ⟨c1, h⟩ := h
  refine n_getf (q := 247) (jj := 16) 124 12 16 rfl kX12_272 c1 ?_
  refine s_iconst (q := 248) 125 rfl ?_
  refine s_icmp_ne (q := 251) (tgt := 335) 126 rfl rfl (fun hb => ?_) (fun hb => ?_)
  · skip
    have b2 := hb
    replace h := h.1 hb
    exact s_vret 169 rfl rfl h
  · have hb := Classical.not_not.mp hb
    have b2 := hb
    replace h := h.2 hb
    refine s_aload_n (q := 252) 127 0 rfl rfl ?_
    refine n_getf (q := 255) (jj := 15) 128 12 15 rfl kX12_249 c1 ?_
    refine s_aload_n (q := 256) 129 0 rfl rfl ?_
    refine n_getf (q := 259) (jj := 13) 130 12 13 rfl kX12_236 c1 ?_
    refine s_icmp_ge (q := 262) (tgt := 335) 131 rfl rfl (fun hb => ?_) (fun hb => ?_)
    · skip
      have b3 := hb
      replace h := h.1 hb
      exact s_vret 169 rfl rfl h
    · skip
      have b3 := hb
      replace h := h.2 hb
      refine s_aload_n (q := 263) 132 0 rfl rfl ?_
      refine n_getf (q := 266) (jj := 12) 133 12 12 rfl kX12_35 c1 ?_
      refine s_aload_n (q := 267) 134 0 rfl rfl ?_
      refine n_getf (q := 270) (jj := 15) 135 12 15 rfl kX12_249 c1 ?_
      obtain ⟨c4, h⟩ := h
      obtain ⟨c5, h⟩ := h
      refine n_iald (q := 271) 136 rfl c4 c5 ?_
      refine n_callS (N := mX12_isDigit) (as := [(0, E (F x0 12) (F x0 15))]) (st := []) (q := 274) (d' := 0) 137 rfl uX12_isDigit kX12_269 rfl (pX12_isDigit ?_)
      show PW l G 1 mX12_next bg 274 [(0, (2, x0))] [(0, bI (48 ≤ E (F x0 12) (F x0 15) ∧ E (F x0 12) (F x0 15) < 58))] (n, K, F, E) Q
      refine s_if_eq (q := 277) (tgt := 335) 138 rfl rfl (fun hb => ?_) (fun hb => ?_)
      · have hb := bI_f hb
        have b6 := hb
        replace h := h.1 hb
        exact s_vret 169 rfl rfl h
      · have hb := bI_t hb
        have b6 := hb
        replace h := h.2 hb
        refine s_aload_n (q := 278) 139 0 rfl rfl ?_
        refine s_aload_n (q := 279) 140 0 rfl rfl ?_
        refine n_getf (q := 282) (jj := 17) 141 12 17 rfl kX12_262 c1 ?_
        refine s_ldc2 (q := 285) (x := 1000000) 142 rfl kX12_281 ?_
        refine s_lcmp (q := 286) 143 rfl ?_
        refine s_if_le (q := 289) (tgt := 296) 144 rfl rfl (fun hb => ?_) (fun hb => ?_)
        · have hb := lCmp_le.mp hb
          have b7 := hb
          replace h := h.1 hb
          refine s_aload_n (q := 297) 148 0 rfl rfl ?_
          refine n_getf (q := 300) (jj := 17) 149 12 17 rfl kX12_262 c1 ?_
          refine s_ldc2 (q := 303) (x := 10) 150 rfl kX12_231 ?_
          refine s_lmul (q := 304) 151 rfl ?_
          refine s_aload_n (q := 305) 152 0 rfl rfl ?_
          refine n_getf (q := 308) (jj := 12) 153 12 12 rfl kX12_35 c1 ?_
          refine s_aload_n (q := 309) 154 0 rfl rfl ?_
          refine n_getf (q := 312) (jj := 15) 155 12 15 rfl kX12_249 c1 ?_
          refine n_iald (q := 313) 156 rfl c4 c5 ?_
          refine s_i2l (q := 314) 157 rfl ?_
          obtain ⟨c8, h⟩ := h
          refine n_ladd (q := 315) 158 rfl c8 ?_
          refine PW.name (fun a1 ea1 => ?_)
          replace h := h a1 ea1
          refine s_ldc2 (q := 318) (x := 48) 159 rfl kX12_283 ?_
          obtain ⟨c9, h⟩ := h
          refine n_lsub (q := 319) 160 rfl c9 ?_
          refine n_putf (q := 322) (jj := 17) 161 12 17 rfl kX12_262 c1 (Or.inr (Or.inl rfl)) ?_
          refine PW.nameF (fun F2 eF2 => ?_)
          replace h := h F2 eF2
          refine s_aload_n (q := 323) 162 0 rfl rfl ?_
          refine s_dup (q := 324) 163 rfl ?_
          refine n_getf (q := 327) (jj := 15) 164 12 15 rfl kX12_249 c1 ?_
          refine PW.top (b := F x0 15) (by exact (congrFun (congrFun eF2 _) _).trans (pUp_k (by decide))) ?_
          refine s_iconst (q := 328) 165 rfl ?_
          obtain ⟨c10, h⟩ := h
          refine n_iadd (q := 329) 166 rfl c10 ?_
          refine n_putf (q := 332) (jj := 15) 167 12 15 rfl kX12_249 c1 (Or.inl rfl) ?_
          refine PW.nameF (fun F3 eF3 => ?_)
          replace h := h F3 eF3
          refine s_goto (tgt := 243) 168 rfl rfl ?_
          refine PW.pick [0] rfl ?_
          exact h
        · have hb := mt lCmp_le.mpr hb
          have b7 := hb
          replace h := h.2 hb
          refine s_aload_n (q := 290) 145 0 rfl rfl ?_
          refine n_getf (q := 293) (jj := 17) 146 12 17 rfl kX12_262 c1 ?_
          refine s_goto (tgt := 319) 147 rfl rfl ?_
          refine n_putf (q := 322) (jj := 17) 161 12 17 rfl kX12_262 c1 (Or.inr (Or.inl rfl)) ?_
          refine PW.nameF (fun F4 eF4 => ?_)
          replace h := h F4 eF4
          refine s_aload_n (q := 323) 162 0 rfl rfl ?_
          refine s_dup (q := 324) 163 rfl ?_
          refine n_getf (q := 327) (jj := 15) 164 12 15 rfl kX12_249 c1 ?_
          refine PW.top (b := F x0 15) (by exact (congrFun (congrFun eF4 _) _).trans (pUp_k (by decide))) ?_
          refine s_iconst (q := 328) 165 rfl ?_
          obtain ⟨c11, h⟩ := h
          refine n_iadd (q := 329) 166 rfl c11 ?_
          refine n_putf (q := 332) (jj := 15) 167 12 15 rfl kX12_249 c1 (Or.inl rfl) ?_
          refine PW.nameF (fun F5 eF5 => ?_)
          replace h := h F5 eF5
          refine s_goto (tgt := 243) 168 rfl rfl ?_
          refine PW.pick [0] rfl ?_
          exact h
theorem vX12_must_0 {l : Launch} {G : pG} {bg : Nat × Nat} {n : Nat} {K : Int → Nat × Nat} {F E : Int → Int → Int} {Q : Option pV → pM → Prop} (x0 x1 : Int) (h : (K x0).1 = 12 ∧ ((¬ (F x0 19) = 0 → ((¬ (F x0 19) = 0 → Q none (n, K, F, E)) ∧ ((F x0 19) = 0 → PC l G 1 mX12_next (0, 0) [(2, x0)] (n, K, F, E) (fun r μ => PW l G 2 mX12_must bg 35 [] (r.toList ++ []) μ Q)))) ∧ ((F x0 19) = 0 → ((¬ x1 = 0 → ((¬ (F x0 19) = 0 → Q none (n, K, F, E)) ∧ ((F x0 19) = 0 → PC l G 1 mX12_next (0, 0) [(2, x0)] (n, K, F, E) (fun r μ => PW l G 2 mX12_must bg 35 [] (r.toList ++ []) μ Q)))) ∧ (x1 = 0 → (∀ F1, F1 = pUp F x0 19 1 → (∀ F2, F2 = pUp F1 x0 18 (F x0 14) → Q none (n, K, F2, E)))))))) : PW l G 2 mX12_must bg 0 [(0, (2, x0)), (1, (0, x1))] [] (n, K, F, E) Q := by
  refine s_aload_n (q := 1) 0 0 rfl rfl ?_
  obtain ⟨c1, h⟩ := h
  refine n_getf (q := 4) (jj := 19) 1 12 19 rfl kX12_252 c1 ?_
  refine s_if_ne (q := 7) (tgt := 24) 2 rfl rfl (fun hb => ?_) (fun hb => ?_)
  · skip
    have b2 := hb
    replace h := h.1 hb
    refine s_aload_n (q := 25) 12 0 rfl rfl ?_
    refine n_getf (q := 28) (jj := 19) 13 12 19 rfl kX12_252 c1 ?_
    refine s_if_ne (q := 31) (tgt := 35) 14 rfl rfl (fun hb => ?_) (fun hb => ?_)
    · skip
      have b3 := hb
      replace h := h.1 hb
      exact s_vret 17 rfl rfl h
    · have hb := Classical.not_not.mp hb
      have b3 := hb
      replace h := h.2 hb
      refine s_aload_n (q := 32) 15 0 rfl rfl ?_
      refine PW.pick [] rfl ?_
      exact n_callV (N := mX12_next) (as := []) (st := []) (q := 35) (d' := 1) 16 rfl uX12_next kX12_256 rfl c1 h
  · have hb := Classical.not_not.mp hb
    have b2 := hb
    replace h := h.2 hb
    refine s_iload_n (q := 8) 3 1 rfl rfl ?_
    refine s_if_ne (q := 11) (tgt := 24) 4 rfl rfl (fun hb => ?_) (fun hb => ?_)
    · skip
      have b4 := hb
      replace h := h.1 hb
      refine s_aload_n (q := 25) 12 0 rfl rfl ?_
      refine n_getf (q := 28) (jj := 19) 13 12 19 rfl kX12_252 c1 ?_
      refine s_if_ne (q := 31) (tgt := 35) 14 rfl rfl (fun hb => ?_) (fun hb => ?_)
      · skip
        have b5 := hb
        replace h := h.1 hb
        exact s_vret 17 rfl rfl h
      · have hb := Classical.not_not.mp hb
        have b5 := hb
        replace h := h.2 hb
        refine s_aload_n (q := 32) 15 0 rfl rfl ?_
        refine PW.pick [] rfl ?_
        exact n_callV (N := mX12_next) (as := []) (st := []) (q := 35) (d' := 1) 16 rfl uX12_next kX12_256 rfl c1 h
    · have hb := Classical.not_not.mp hb
      have b4 := hb
      replace h := h.2 hb
      refine s_aload_n (q := 12) 5 0 rfl rfl ?_
      refine s_iconst (q := 13) 6 rfl ?_
      refine n_putf (q := 16) (jj := 19) 7 12 19 rfl kX12_252 c1 (Or.inr (Or.inr (Or.inl ⟨rfl, (by decide)⟩))) ?_
      refine PW.nameF (fun F1 eF1 => ?_)
      replace h := h F1 eF1
      refine s_aload_n (q := 17) 8 0 rfl rfl ?_
      refine s_aload_n (q := 18) 9 0 rfl rfl ?_
      refine n_getf (q := 21) (jj := 14) 10 12 14 rfl kX12_259 c1 ?_
      refine PW.top (b := F x0 14) (by exact (congrFun (congrFun eF1 _) _).trans (pUp_k (by decide))) ?_
      refine n_putf (q := 24) (jj := 18) 11 12 18 rfl kX12_38 c1 (Or.inl rfl) ?_
      refine PW.nameF (fun F2 eF2 => ?_)
      replace h := h F2 eF2
      refine s_aload_n (q := 25) 12 0 rfl rfl ?_
      refine n_getf (q := 28) (jj := 19) 13 12 19 rfl kX12_252 c1 ?_
      refine PW.top (b := 1) (by refine (congrFun (congrFun eF2 _) _).trans ((pUp_k (by decide)).trans ?_); exact (congrFun (congrFun eF1 _) _).trans pUp_s) ?_
      refine s_if_ne (q := 31) (tgt := 35) 14 rfl rfl (fun _ => ?_) (fun hb => absurd (by decide) hb)
      exact s_vret 17 rfl rfl h
theorem vX12_must_35 {l : Launch} {G : pG} {bg : Nat × Nat} {n : Nat} {K : Int → Nat × Nat} {F E : Int → Int → Int} {Q : Option pV → pM → Prop} (h : Q none (n, K, F, E)) : PW l G 2 mX12_must bg 35 [] [] (n, K, F, E) Q := by
  exact s_vret 17 rfl rfl h
theorem vX12_number_0 {l : Launch} {G : pG} {bg : Nat × Nat} {n : Nat} {K : Int → Nat × Nat} {F E : Int → Int → Int} {Q : Option pV → pM → Prop} (x0 x1 x3 : Int) (h : (K x0).1 = 12 ∧ (-2147483648 ≤ F x0 17 ∧ F x0 17 < 2147483648) ∧ ((¬ (F x0 16) = 2 → PC l G 2 mX12_must (0, 0) [(2, x0), (0, 0)] (n, K, F, E) (fun r μ => PW l G 3 mX12_number bg 36 [(5, (0, F x0 17))] (r.toList ++ []) μ Q)) ∧ ((F x0 16) = 2 → ((¬ (x1 ≤ F x0 17 ∧ F x0 17 ≤ x3) → PC l G 2 mX12_must (0, 0) [(2, x0), (0, 0)] (n, K, F, E) (fun r μ => PW l G 3 mX12_number bg 36 [(5, (0, F x0 17))] (r.toList ++ []) μ Q)) ∧ (x1 ≤ F x0 17 ∧ F x0 17 ≤ x3 → PC l G 2 mX12_must (0, 0) [(2, x0), (0, 1)] (n, K, F, E) (fun r μ => PW l G 3 mX12_number bg 36 [(5, (0, F x0 17))] (r.toList ++ []) μ Q)))))) : PW l G 3 mX12_number bg 0 [(0, (2, x0)), (1, (1, x1)), (3, (1, x3))] [] (n, K, F, E) Q := by
  refine s_aload_n (q := 1) 0 0 rfl rfl ?_
  obtain ⟨c1, h⟩ := h
  refine n_getf (q := 4) (jj := 17) 1 12 17 rfl kX12_262 c1 ?_
  obtain ⟨c2, h⟩ := h
  refine n_l2i (q := 5) 2 rfl c2 ?_
  refine s_istore (q := 7) (lv' := [(5, (0, F x0 17)), (0, (2, x0)), (1, (1, x1)), (3, (1, x3))]) 3 rfl rfl ?_
  refine s_aload_n (q := 8) 4 1 rfl rfl ?_
  refine s_aload_n (q := 9) 5 1 rfl rfl ?_
  refine n_getf (q := 12) (jj := 16) 6 12 16 rfl kX12_272 c1 ?_
  refine s_iconst (q := 13) 7 rfl ?_
  refine s_icmp_ne (q := 16) (tgt := 32) 8 rfl rfl (fun hb => ?_) (fun hb => ?_)
  · skip
    have b3 := hb
    replace h := h.1 hb
    refine s_iconst (q := 33) 17 rfl ?_
    refine PW.pick [0] rfl ?_
    exact n_callV (N := mX12_must) (as := [(0, 0)]) (st := []) (q := 36) (d' := 2) 18 rfl uX12_must kX12_285 rfl c1 h
  · have hb := Classical.not_not.mp hb
    have b3 := hb
    replace h := h.2 hb
    refine s_aload_n (q := 17) 9 1 rfl rfl ?_
    refine n_getf (q := 20) (jj := 17) 10 12 17 rfl kX12_262 c1 ?_
    refine s_lload_n (q := 21) 11 2 rfl rfl ?_
    refine s_lload_n (q := 22) 12 3 rfl rfl ?_
    refine n_callS (N := mX12_in) (as := [(1, F x0 17), (1, x1), (1, x3)]) (st := [(2, x0)]) (q := 25) (d' := 0) 13 rfl uX12_in kX12_197 rfl (pX12_in ?_)
    show PW l G 3 mX12_number bg 25 [(5, (0, F x0 17)), (0, (2, x0)), (1, (1, x1)), (3, (1, x3))] [(0, bI (x1 ≤ F x0 17 ∧ F x0 17 ≤ x3)), (2, x0)] (n, K, F, E) Q
    refine s_if_eq (q := 28) (tgt := 32) 14 rfl rfl (fun hb => ?_) (fun hb => ?_)
    · have hb := bI_f hb
      have b4 := hb
      replace h := h.1 hb
      refine s_iconst (q := 33) 17 rfl ?_
      refine PW.pick [0] rfl ?_
      exact n_callV (N := mX12_must) (as := [(0, 0)]) (st := []) (q := 36) (d' := 2) 18 rfl uX12_must kX12_285 rfl c1 h
    · have hb := bI_t hb
      have b4 := hb
      replace h := h.2 hb
      refine s_iconst (q := 29) 15 rfl ?_
      refine s_goto (tgt := 33) 16 rfl rfl ?_
      refine PW.pick [0] rfl ?_
      exact n_callV (N := mX12_must) (as := [(0, 1)]) (st := []) (q := 36) (d' := 2) 18 rfl uX12_must kX12_285 rfl c1 h
theorem vX12_number_36 {l : Launch} {G : pG} {bg : Nat × Nat} {n : Nat} {K : Int → Nat × Nat} {F E : Int → Int → Int} {Q : Option pV → pM → Prop} (x5 : Int) (h : Q (some (0, x5)) (n, K, F, E)) : PW l G 3 mX12_number bg 36 [(5, (0, x5))] [] (n, K, F, E) Q := by
  refine s_iload (q := 38) 19 0 rfl rfl ?_
  exact s_iret 20 rfl rfl h
theorem vX12_fault_0 {l : Launch} {G : pG} {bg : Nat × Nat} {n : Nat} {K : Int → Nat × Nat} {F E : Int → Int → Int} {Q : Option pV → pM → Prop} (x0 : Int) (h : (K x0).1 = 12 ∧ (∀ F1, F1 = pUp F x0 0 0 → Q (some (0, F x0 18)) (n, K, F1, E))) : PW l G 0 mX12_fault bg 0 [(0, (2, x0))] [] (n, K, F, E) Q := by
  refine s_aload_n (q := 1) 0 0 rfl rfl ?_
  refine s_iconst (q := 2) 1 rfl ?_
  obtain ⟨c1, h⟩ := h
  refine n_putf (q := 5) (jj := 0) 2 12 0 rfl kX12_174 c1 (Or.inl rfl) ?_
  refine PW.nameF (fun F1 eF1 => ?_)
  replace h := h F1 eF1
  refine s_aload_n (q := 6) 3 0 rfl rfl ?_
  refine n_getf (q := 9) (jj := 18) 4 12 18 rfl kX12_38 c1 ?_
  refine PW.top (b := F x0 18) (by exact (congrFun (congrFun eF1 _) _).trans (pUp_k (by decide))) ?_
  exact s_iret 5 rfl rfl h
theorem vX12_settle_0 {l : Launch} {G : pG} {bg : Nat × Nat} {n : Nat} {K : Int → Nat × Nat} {F E : Int → Int → Int} {Q : Option pV → pM → Prop} (x0 x1 : Int) (h : (K x0).1 = 12 ∧ ((F x0 29 ≤ 0 → Q none (n, K, F, E)) ∧ (¬ (F x0 29 ≤ 0) → (-2147483648 ≤ (F x0 29) - 1 ∧ (F x0 29) - 1 < 2147483648) ∧ (K (F x0 27)).1 = 20 ∧ ((0 : Int) ≤ (F x0 29) - 1 ∧ (F x0 29) - 1 < ((K (F x0 27)).2 : Int)) ∧ ((pBinds (E (F x0 27) ((F x0 29) - 1)) < x1 → Q none (n, K, F, E)) ∧ (¬ (pBinds (E (F x0 27) ((F x0 29) - 1)) < x1) → (∀ F1, F1 = pUp F x0 29 ((F x0 29) - 1) → ((E (F x0 27) ((F x0 29) - 1) = 29 → (K (F x0 28)).1 = 20 ∧ ((0 : Int) ≤ (F x0 29) - 1 ∧ (F x0 29) - 1 < ((K (F x0 28)).2 : Int)) ∧ (0 : Int) ≤ F x0 25 ∧ (K (F x0 25)).1 = 20 ∧ ((0 : Int) ≤ E (F x0 28) ((F x0 29) - 1) ∧ E (F x0 28) ((F x0 29) - 1) < ((K (F x0 25)).2 : Int)) ∧ (∀ E2, E2 = pUp E (F x0 25) (E (F x0 28) ((F x0 29) - 1)) (F x0 23) → PW l G 1 mX12_settle bg 0 [(0, (2, x0)), (1, (0, x1))] [] (n, K, F1, E2) Q)) ∧ (¬ (E (F x0 27) ((F x0 29) - 1) = 29) → ((¬ (E (F x0 27) ((F x0 29) - 1)) = 30 → (0 : Int) ≤ F x0 24 ∧ (K (F x0 24)).1 = 20 ∧ ((0 : Int) ≤ F x0 23 ∧ F x0 23 < ((K (F x0 24)).2 : Int)) ∧ (∀ E3, E3 = pUp E (F x0 24) (F x0 23) (E (F x0 27) ((F x0 29) - 1)) → (0 : Int) ≤ F x0 25 ∧ (K (F x0 25)).1 = 20 ∧ ((0 : Int) ≤ F x0 23 ∧ F x0 23 < ((K (F x0 25)).2 : Int)) ∧ (∀ E4, E4 = pUp E3 (F x0 25) (F x0 23) 0 → (-2147483648 ≤ (F x0 23) + 1 ∧ (F x0 23) + 1 < 2147483648) ∧ (∀ F5, F5 = pUp F1 x0 23 ((F x0 23) + 1) → PW l G 1 mX12_settle bg 0 [(0, (2, x0)), (1, (0, x1))] [] (n, K, F5, E4) Q)))) ∧ ((E (F x0 27) ((F x0 29) - 1)) = 30 → (K (F x0 28)).1 = 20 ∧ ((0 : Int) ≤ (F x0 29) - 1 ∧ (F x0 29) - 1 < ((K (F x0 28)).2 : Int)) ∧ (0 : Int) ≤ F x0 25 ∧ (K (F x0 25)).1 = 20 ∧ ((0 : Int) ≤ E (F x0 28) ((F x0 29) - 1) ∧ E (F x0 28) ((F x0 29) - 1) < ((K (F x0 25)).2 : Int)) ∧ (∀ E6, E6 = pUp E (F x0 25) (E (F x0 28) ((F x0 29) - 1)) (F x0 23) → PW l G 1 mX12_settle bg 0 [(0, (2, x0)), (1, (0, x1))] [] (n, K, F1, E6) Q))))))))))) : PW l G 1 mX12_settle bg 0 [(0, (2, x0)), (1, (0, x1))] [] (n, K, F, E) Q := by
  refine s_aload_n (q := 1) 0 0 rfl rfl ?_
  obtain ⟨c1, h⟩ := h
  refine n_getf (q := 4) (jj := 29) 1 12 29 rfl kX12_292 c1 ?_
  refine s_if_le (q := 7) (tgt := 101) 2 rfl rfl (fun hb => ?_) (fun hb => ?_)
  · skip
    have b2 := hb
    replace h := h.1 hb
    exact s_vret 53 rfl rfl h
  · skip
    have b2 := hb
    replace h := h.2 hb
    refine s_aload_n (q := 8) 3 0 rfl rfl ?_
    refine n_getf (q := 11) (jj := 27) 4 12 27 rfl kX12_51 c1 ?_
    refine s_aload_n (q := 12) 5 0 rfl rfl ?_
    refine n_getf (q := 15) (jj := 29) 6 12 29 rfl kX12_292 c1 ?_
    refine s_iconst (q := 16) 7 rfl ?_
    obtain ⟨c3, h⟩ := h
    refine n_isub (q := 17) 8 rfl c3 ?_
    obtain ⟨c4, h⟩ := h
    obtain ⟨c5, h⟩ := h
    refine n_iald (q := 18) 9 rfl c4 c5 ?_
    refine n_callS (N := mX12_binds) (as := [(0, E (F x0 27) ((F x0 29) - 1))]) (st := []) (q := 21) (d' := 0) 10 rfl uX12_binds kX12_295 rfl (pX12_binds ?_)
    show PW l G 1 mX12_settle bg 21 [(0, (2, x0)), (1, (0, x1))] [(0, pBinds (E (F x0 27) ((F x0 29) - 1)))] (n, K, F, E) Q
    refine s_iload_n (q := 22) 11 1 rfl rfl ?_
    refine s_icmp_lt (q := 25) (tgt := 101) 12 rfl rfl (fun hb => ?_) (fun hb => ?_)
    · skip
      have b6 := hb
      replace h := h.1 hb
      exact s_vret 53 rfl rfl h
    · skip
      have b6 := hb
      replace h := h.2 hb
      refine s_aload_n (q := 26) 13 0 rfl rfl ?_
      refine s_dup (q := 27) 14 rfl ?_
      refine n_getf (q := 30) (jj := 29) 15 12 29 rfl kX12_292 c1 ?_
      refine s_iconst (q := 31) 16 rfl ?_
      refine n_isub (q := 32) 17 rfl c3 ?_
      refine n_putf (q := 35) (jj := 29) 18 12 29 rfl kX12_292 c1 (Or.inl rfl) ?_
      refine PW.nameF (fun F1 eF1 => ?_)
      replace h := h F1 eF1
      refine s_aload_n (q := 36) 19 0 rfl rfl ?_
      refine n_getf (q := 39) (jj := 27) 20 12 27 rfl kX12_51 c1 ?_
      refine PW.top (b := F x0 27) (by exact (congrFun (congrFun eF1 _) _).trans (pUp_k (by decide))) ?_
      refine s_aload_n (q := 40) 21 0 rfl rfl ?_
      refine n_getf (q := 43) (jj := 29) 22 12 29 rfl kX12_292 c1 ?_
      refine PW.top (b := (F x0 29) - 1) (by exact (congrFun (congrFun eF1 _) _).trans pUp_s) ?_
      refine n_iald (q := 44) 23 rfl c4 c5 ?_
      refine s_bipush (q := 46) 24 rfl ?_
      refine s_icmp_eq (q := 49) (tgt := 63) 25 rfl rfl (fun hb => ?_) (fun hb => ?_)
      · skip
        have b7 := hb
        replace h := h.1 hb
        refine s_aload_n (q := 64) 33 0 rfl rfl ?_
        refine n_getf (q := 67) (jj := 25) 34 12 25 rfl kX12_48 c1 ?_
        refine PW.top (b := F x0 25) (by exact (congrFun (congrFun eF1 _) _).trans (pUp_k (by decide))) ?_
        refine s_aload_n (q := 68) 35 0 rfl rfl ?_
        refine n_getf (q := 71) (jj := 28) 36 12 28 rfl kX12_54 c1 ?_
        refine PW.top (b := F x0 28) (by exact (congrFun (congrFun eF1 _) _).trans (pUp_k (by decide))) ?_
        refine s_aload_n (q := 72) 37 0 rfl rfl ?_
        refine n_getf (q := 75) (jj := 29) 38 12 29 rfl kX12_292 c1 ?_
        refine PW.top (b := (F x0 29) - 1) (by exact (congrFun (congrFun eF1 _) _).trans pUp_s) ?_
        obtain ⟨c8, h⟩ := h
        obtain ⟨c9, h⟩ := h
        refine n_iald (q := 76) 39 rfl c8 c9 ?_
        refine s_aload_n (q := 77) 40 0 rfl rfl ?_
        refine n_getf (q := 80) (jj := 23) 41 12 23 rfl kX12_289 c1 ?_
        refine PW.top (b := F x0 23) (by exact (congrFun (congrFun eF1 _) _).trans (pUp_k (by decide))) ?_
        obtain ⟨c10, h⟩ := h
        obtain ⟨c11, h⟩ := h
        obtain ⟨c12, h⟩ := h
        refine n_iast (q := 81) 42 rfl c10 c11 c12 ?_
        refine PW.nameE (fun E2 eE2 => ?_)
        replace h := h E2 eE2
        refine s_goto (tgt := 0) 43 rfl rfl ?_
        refine PW.pick [0, 1] rfl ?_
        exact h
      · skip
        have b7 := hb
        replace h := h.2 hb
        refine s_aload_n (q := 50) 26 0 rfl rfl ?_
        refine n_getf (q := 53) (jj := 27) 27 12 27 rfl kX12_51 c1 ?_
        refine PW.top (b := F x0 27) (by exact (congrFun (congrFun eF1 _) _).trans (pUp_k (by decide))) ?_
        refine s_aload_n (q := 54) 28 0 rfl rfl ?_
        refine n_getf (q := 57) (jj := 29) 29 12 29 rfl kX12_292 c1 ?_
        refine PW.top (b := (F x0 29) - 1) (by exact (congrFun (congrFun eF1 _) _).trans pUp_s) ?_
        refine n_iald (q := 58) 30 rfl c4 c5 ?_
        refine s_bipush (q := 60) 31 rfl ?_
        refine s_icmp_ne (q := 63) (tgt := 84) 32 rfl rfl (fun hb => ?_) (fun hb => ?_)
        · skip
          have b13 := hb
          replace h := h.1 hb
          refine s_aload_n (q := 85) 44 0 rfl rfl ?_
          refine s_aload_n (q := 86) 45 0 rfl rfl ?_
          refine n_getf (q := 89) (jj := 27) 46 12 27 rfl kX12_51 c1 ?_
          refine PW.top (b := F x0 27) (by exact (congrFun (congrFun eF1 _) _).trans (pUp_k (by decide))) ?_
          refine s_aload_n (q := 90) 47 0 rfl rfl ?_
          refine n_getf (q := 93) (jj := 29) 48 12 29 rfl kX12_292 c1 ?_
          refine PW.top (b := (F x0 29) - 1) (by exact (congrFun (congrFun eF1 _) _).trans pUp_s) ?_
          refine n_iald (q := 94) 49 rfl c4 c5 ?_
          refine s_iconst (q := 95) 50 rfl ?_
          refine n_callV (N := mX12_emit) (as := [(0, E (F x0 27) ((F x0 29) - 1)), (0, 0)]) (st := []) (q := 98) (d' := 0) 51 rfl uX12_emit kX12_298 rfl c1 ?_
          show PW l G 0 mX12_emit (0, 0) 0 [(0, (2, x0)), (1, (0, E (F x0 27) ((F x0 29) - 1))), (2, (0, 0))] [] (n, K, F1, E) _
          refine s_aload_n (q := 1) 0 0 rfl rfl ?_
          refine n_getf (q := 4) (jj := 24) 1 12 24 rfl kX12_45 c1 ?_
          refine PW.top (b := F x0 24) (by exact (congrFun (congrFun eF1 _) _).trans (pUp_k (by decide))) ?_
          refine s_aload_n (q := 5) 2 0 rfl rfl ?_
          refine n_getf (q := 8) (jj := 23) 3 12 23 rfl kX12_289 c1 ?_
          refine PW.top (b := F x0 23) (by exact (congrFun (congrFun eF1 _) _).trans (pUp_k (by decide))) ?_
          refine s_iload_n (q := 9) 4 1 rfl rfl ?_
          obtain ⟨c14, h⟩ := h
          obtain ⟨c15, h⟩ := h
          obtain ⟨c16, h⟩ := h
          refine n_iast (q := 10) 5 rfl c14 c15 c16 ?_
          refine PW.nameE (fun E3 eE3 => ?_)
          replace h := h E3 eE3
          refine s_aload_n (q := 11) 6 0 rfl rfl ?_
          refine n_getf (q := 14) (jj := 25) 7 12 25 rfl kX12_48 c1 ?_
          refine PW.top (b := F x0 25) (by exact (congrFun (congrFun eF1 _) _).trans (pUp_k (by decide))) ?_
          refine s_aload_n (q := 15) 8 0 rfl rfl ?_
          refine n_getf (q := 18) (jj := 23) 9 12 23 rfl kX12_289 c1 ?_
          refine PW.top (b := F x0 23) (by exact (congrFun (congrFun eF1 _) _).trans (pUp_k (by decide))) ?_
          refine s_iload_n (q := 19) 10 2 rfl rfl ?_
          obtain ⟨c17, h⟩ := h
          obtain ⟨c18, h⟩ := h
          obtain ⟨c19, h⟩ := h
          refine n_iast (q := 20) 11 rfl c17 c18 c19 ?_
          refine PW.nameE (fun E4 eE4 => ?_)
          replace h := h E4 eE4
          refine s_aload_n (q := 21) 12 0 rfl rfl ?_
          refine s_dup (q := 22) 13 rfl ?_
          refine n_getf (q := 25) (jj := 23) 14 12 23 rfl kX12_289 c1 ?_
          refine PW.top (b := F x0 23) (by exact (congrFun (congrFun eF1 _) _).trans (pUp_k (by decide))) ?_
          refine s_iconst (q := 26) 15 rfl ?_
          obtain ⟨c20, h⟩ := h
          refine n_iadd (q := 27) 16 rfl c20 ?_
          refine n_putf (q := 30) (jj := 23) 17 12 23 rfl kX12_289 c1 (Or.inl rfl) ?_
          refine PW.nameF (fun F5 eF5 => ?_)
          replace h := h F5 eF5
          refine s_vret 18 rfl rfl ?_
          show PW l G 1 mX12_settle bg 98 [(0, (2, x0)), (1, (0, x1))] [] (n, K, F5, E4) Q
          refine s_goto (tgt := 0) 52 rfl rfl ?_
          refine PW.pick [0, 1] rfl ?_
          exact h
        · have hb := Classical.not_not.mp hb
          have b13 := hb
          replace h := h.2 hb
          refine s_aload_n (q := 64) 33 0 rfl rfl ?_
          refine n_getf (q := 67) (jj := 25) 34 12 25 rfl kX12_48 c1 ?_
          refine PW.top (b := F x0 25) (by exact (congrFun (congrFun eF1 _) _).trans (pUp_k (by decide))) ?_
          refine s_aload_n (q := 68) 35 0 rfl rfl ?_
          refine n_getf (q := 71) (jj := 28) 36 12 28 rfl kX12_54 c1 ?_
          refine PW.top (b := F x0 28) (by exact (congrFun (congrFun eF1 _) _).trans (pUp_k (by decide))) ?_
          refine s_aload_n (q := 72) 37 0 rfl rfl ?_
          refine n_getf (q := 75) (jj := 29) 38 12 29 rfl kX12_292 c1 ?_
          refine PW.top (b := (F x0 29) - 1) (by exact (congrFun (congrFun eF1 _) _).trans pUp_s) ?_
          obtain ⟨c21, h⟩ := h
          obtain ⟨c22, h⟩ := h
          refine n_iald (q := 76) 39 rfl c21 c22 ?_
          refine s_aload_n (q := 77) 40 0 rfl rfl ?_
          refine n_getf (q := 80) (jj := 23) 41 12 23 rfl kX12_289 c1 ?_
          refine PW.top (b := F x0 23) (by exact (congrFun (congrFun eF1 _) _).trans (pUp_k (by decide))) ?_
          obtain ⟨c23, h⟩ := h
          obtain ⟨c24, h⟩ := h
          obtain ⟨c25, h⟩ := h
          refine n_iast (q := 81) 42 rfl c23 c24 c25 ?_
          refine PW.nameE (fun E6 eE6 => ?_)
          replace h := h E6 eE6
          refine s_goto (tgt := 0) 43 rfl rfl ?_
          refine PW.pick [0, 1] rfl ?_
          exact h
theorem vX12_inner_0 {l : Launch} {G : pG} {bg : Nat × Nat} {n : Nat} {K : Int → Nat × Nat} {F E : Int → Int → Int} {Q : Option pV → pM → Prop} (x0 : Int) (h : PW l G 0 mX12_inner bg 4 [(0, (2, x0)), (1, (0, (-1))), (2, (0, 0))] [] (n, K, F, E) Q) : PW l G 0 mX12_inner bg 0 [(0, (2, x0))] [] (n, K, F, E) Q := by
  refine s_iconst (q := 1) 0 rfl ?_
  refine s_istore_n (q := 2) (lv' := [(1, (0, (-1))), (0, (2, x0))]) 1 rfl rfl ?_
  refine s_iconst (q := 3) 2 rfl ?_
  refine s_istore_n (q := 4) (lv' := [(2, (0, 0)), (1, (0, (-1))), (0, (2, x0))]) 3 rfl rfl ?_
  refine PW.pick [2, 1, 0] rfl ?_
  exact h
theorem vX12_inner_4 {l : Launch} {G : pG} {bg : Nat × Nat} {n : Nat} {K : Int → Nat × Nat} {F E : Int → Int → Int} {Q : Option pV → pM → Prop} (x0 x1 x2 : Int) (h : (K x0).1 = 12 ∧ ((F x0 29 ≤ x2 → Q (some (0, x1)) (n, K, F, E)) ∧ (¬ (F x0 29 ≤ x2) → (K (F x0 27)).1 = 20 ∧ ((0 : Int) ≤ x2 ∧ x2 < ((K (F x0 27)).2 : Int)) ∧ ((E (F x0 27) x2 < 31 → (-2147483648 ≤ x2 + 1 ∧ x2 + 1 < 2147483648) ∧ PW l G 0 mX12_inner bg 4 [(0, (2, x0)), (1, (0, x1)), (2, (0, x2 + 1))] [] (n, K, F, E) Q) ∧ (¬ (E (F x0 27) x2 < 31) → (-2147483648 ≤ x2 + 1 ∧ x2 + 1 < 2147483648) ∧ PW l G 0 mX12_inner bg 4 [(0, (2, x0)), (1, (0, E (F x0 27) x2)), (2, (0, x2 + 1))] [] (n, K, F, E) Q))))) : PW l G 0 mX12_inner bg 4 [(0, (2, x0)), (1, (0, x1)), (2, (0, x2))] [] (n, K, F, E) Q := by
  refine s_iload_n (q := 5) 4 2 rfl rfl ?_
  refine s_aload_n (q := 6) 5 0 rfl rfl ?_
  obtain ⟨c1, h⟩ := h
  refine n_getf (q := 9) (jj := 29) 6 12 29 rfl kX12_292 c1 ?_
  refine s_icmp_ge (q := 12) (tgt := 40) 7 rfl rfl (fun hb => ?_) (fun hb => ?_)
  · skip
    have b2 := hb
    replace h := h.1 hb
    refine s_iload_n (q := 41) 23 1 rfl rfl ?_
    exact s_iret 24 rfl rfl h
  · skip
    have b2 := hb
    replace h := h.2 hb
    refine s_aload_n (q := 13) 8 0 rfl rfl ?_
    refine n_getf (q := 16) (jj := 27) 9 12 27 rfl kX12_51 c1 ?_
    refine s_iload_n (q := 17) 10 2 rfl rfl ?_
    obtain ⟨c3, h⟩ := h
    obtain ⟨c4, h⟩ := h
    refine n_iald (q := 18) 11 rfl c3 c4 ?_
    refine s_bipush (q := 20) 12 rfl ?_
    refine s_icmp_lt (q := 23) (tgt := 32) 13 rfl rfl (fun hb => ?_) (fun hb => ?_)
    · skip
      have b5 := hb
      replace h := h.1 hb
      refine s_iload_n (q := 33) 19 1 rfl rfl ?_
      refine s_istore_n (q := 34) (lv' := [(1, (0, x1)), (0, (2, x0)), (2, (0, x2))]) 20 rfl rfl ?_
      obtain ⟨c6, h⟩ := h
      refine n_iinc (q := 37) (lv' := [(2, (0, x2 + 1)), (1, (0, x1)), (0, (2, x0))]) 21 2 rfl rfl c6 rfl ?_
      refine s_goto (tgt := 4) 22 rfl rfl ?_
      refine PW.pick [2, 1, 0] rfl ?_
      exact h
    · skip
      have b5 := hb
      replace h := h.2 hb
      refine s_aload_n (q := 24) 14 0 rfl rfl ?_
      refine n_getf (q := 27) (jj := 27) 15 12 27 rfl kX12_51 c1 ?_
      refine s_iload_n (q := 28) 16 2 rfl rfl ?_
      refine n_iald (q := 29) 17 rfl c3 c4 ?_
      refine s_goto (tgt := 33) 18 rfl rfl ?_
      refine s_istore_n (q := 34) (lv' := [(1, (0, E (F x0 27) x2)), (0, (2, x0)), (2, (0, x2))]) 20 rfl rfl ?_
      obtain ⟨c7, h⟩ := h
      refine n_iinc (q := 37) (lv' := [(2, (0, x2 + 1)), (1, (0, E (F x0 27) x2)), (0, (2, x0))]) 21 2 rfl rfl c7 rfl ?_
      refine s_goto (tgt := 4) 22 rfl rfl ?_
      refine PW.pick [2, 1, 0] rfl ?_
      exact h
theorem vX12_isCompared_0 {l : Launch} {G : pG} {bg : Nat × Nat} {n : Nat} {K : Int → Nat × Nat} {F E : Int → Int → Int} {Q : Option pV → pM → Prop} (x0 : Int) (h : (K x0).1 = 12 ∧ (-2147483648 ≤ (F x0 29) - 1 ∧ (F x0 29) - 1 < 2147483648) ∧ PW l G 1 mX12_isCompared bg 7 [(0, (2, x0)), (1, (0, (F x0 29) - 1))] [] (n, K, F, E) Q) : PW l G 1 mX12_isCompared bg 0 [(0, (2, x0))] [] (n, K, F, E) Q := by
  refine s_aload_n (q := 1) 0 0 rfl rfl ?_
  obtain ⟨c1, h⟩ := h
  refine n_getf (q := 4) (jj := 29) 1 12 29 rfl kX12_292 c1 ?_
  refine s_iconst (q := 5) 2 rfl ?_
  obtain ⟨c2, h⟩ := h
  refine n_isub (q := 6) 3 rfl c2 ?_
  refine s_istore_n (q := 7) (lv' := [(1, (0, (F x0 29) - 1)), (0, (2, x0))]) 4 rfl rfl ?_
  refine PW.pick [1, 0] rfl ?_
  exact h
theorem vX12_isCompared_7 {l : Launch} {G : pG} {bg : Nat × Nat} {n : Nat} {K : Int → Nat × Nat} {F E : Int → Int → Int} {Q : Option pV → pM → Prop} (x0 x1 : Int) (h : ((x1 < 0 → ((x1 < 0 → Q (some (0, 0)) (n, K, F, E)) ∧ (¬ (x1 < 0) → (K x0).1 = 12 ∧ (K (F x0 27)).1 = 20 ∧ ((0 : Int) ≤ x1 ∧ x1 < ((K (F x0 27)).2 : Int)) ∧ ((¬ (25 ≤ E (F x0 27) x1 ∧ E (F x0 27) x1 ≤ 27) → Q (some (0, 0)) (n, K, F, E)) ∧ (25 ≤ E (F x0 27) x1 ∧ E (F x0 27) x1 ≤ 27 → Q (some (0, 1)) (n, K, F, E)))))) ∧ (¬ (x1 < 0) → (K x0).1 = 12 ∧ (K (F x0 27)).1 = 20 ∧ ((0 : Int) ≤ x1 ∧ x1 < ((K (F x0 27)).2 : Int)) ∧ ((¬ (20 ≤ E (F x0 27) x1 ∧ E (F x0 27) x1 ≤ 24) → ((x1 < 0 → Q (some (0, 0)) (n, K, F, E)) ∧ (¬ (x1 < 0) → ((¬ (25 ≤ E (F x0 27) x1 ∧ E (F x0 27) x1 ≤ 27) → Q (some (0, 0)) (n, K, F, E)) ∧ (25 ≤ E (F x0 27) x1 ∧ E (F x0 27) x1 ≤ 27 → Q (some (0, 1)) (n, K, F, E)))))) ∧ (20 ≤ E (F x0 27) x1 ∧ E (F x0 27) x1 ≤ 24 → (-2147483648 ≤ x1 + (-1) ∧ x1 + (-1) < 2147483648) ∧ PW l G 1 mX12_isCompared bg 7 [(0, (2, x0)), (1, (0, x1 + (-1)))] [] (n, K, F, E) Q))))) : PW l G 1 mX12_isCompared bg 7 [(0, (2, x0)), (1, (0, x1))] [] (n, K, F, E) Q := by
  refine s_iload_n (q := 8) 5 1 rfl rfl ?_
  refine s_if_lt (q := 11) (tgt := 36) 6 rfl rfl (fun hb => ?_) (fun hb => ?_)
  · skip
    have b1 := hb
    replace h := h.1 hb
    refine s_iload_n (q := 37) 18 1 rfl rfl ?_
    refine s_if_lt (q := 40) (tgt := 63) 19 rfl rfl (fun hb => ?_) (fun hb => ?_)
    · skip
      have b2 := hb
      replace h := h.1 hb
      refine s_iconst (q := 64) 31 rfl ?_
      exact s_zret 32 rfl rfl (by decide) h
    · skip
      have b2 := hb
      replace h := h.2 hb
      refine s_aload_n (q := 41) 20 0 rfl rfl ?_
      obtain ⟨c3, h⟩ := h
      refine n_getf (q := 44) (jj := 27) 21 12 27 rfl kX12_51 c3 ?_
      refine s_iload_n (q := 45) 22 1 rfl rfl ?_
      obtain ⟨c4, h⟩ := h
      obtain ⟨c5, h⟩ := h
      refine n_iald (q := 46) 23 rfl c4 c5 ?_
      refine s_i2l (q := 47) 24 rfl ?_
      refine s_ldc2 (q := 50) (x := 25) 25 rfl kX12_306 ?_
      refine s_ldc2 (q := 53) (x := 27) 26 rfl kX12_308 ?_
      refine n_callS (N := mX12_in) (as := [(1, E (F x0 27) x1), (1, 25), (1, 27)]) (st := []) (q := 56) (d' := 0) 27 rfl uX12_in kX12_197 rfl (pX12_in ?_)
      show PW l G 1 mX12_isCompared bg 56 [(0, (2, x0)), (1, (0, x1))] [(0, bI (25 ≤ E (F x0 27) x1 ∧ E (F x0 27) x1 ≤ 27))] (n, K, F, E) Q
      refine s_if_eq (q := 59) (tgt := 63) 28 rfl rfl (fun hb => ?_) (fun hb => ?_)
      · have hb := bI_f hb
        have b6 := hb
        replace h := h.1 hb
        refine s_iconst (q := 64) 31 rfl ?_
        exact s_zret 32 rfl rfl (by decide) h
      · have hb := bI_t hb
        have b6 := hb
        replace h := h.2 hb
        refine s_iconst (q := 60) 29 rfl ?_
        refine s_goto (tgt := 64) 30 rfl rfl ?_
        exact s_zret 32 rfl rfl (by decide) h
  · skip
    have b1 := hb
    replace h := h.2 hb
    refine s_aload_n (q := 12) 7 0 rfl rfl ?_
    obtain ⟨c7, h⟩ := h
    refine n_getf (q := 15) (jj := 27) 8 12 27 rfl kX12_51 c7 ?_
    refine s_iload_n (q := 16) 9 1 rfl rfl ?_
    obtain ⟨c8, h⟩ := h
    obtain ⟨c9, h⟩ := h
    refine n_iald (q := 17) 10 rfl c8 c9 ?_
    refine s_i2l (q := 18) 11 rfl ?_
    refine s_ldc2 (q := 21) (x := 20) 12 rfl kX12_302 ?_
    refine s_ldc2 (q := 24) (x := 24) 13 rfl kX12_304 ?_
    refine n_callS (N := mX12_in) (as := [(1, E (F x0 27) x1), (1, 20), (1, 24)]) (st := []) (q := 27) (d' := 0) 14 rfl uX12_in kX12_197 rfl (pX12_in ?_)
    show PW l G 1 mX12_isCompared bg 27 [(0, (2, x0)), (1, (0, x1))] [(0, bI (20 ≤ E (F x0 27) x1 ∧ E (F x0 27) x1 ≤ 24))] (n, K, F, E) Q
    refine s_if_eq (q := 30) (tgt := 36) 15 rfl rfl (fun hb => ?_) (fun hb => ?_)
    · have hb := bI_f hb
      have b10 := hb
      replace h := h.1 hb
      refine s_iload_n (q := 37) 18 1 rfl rfl ?_
      refine s_if_lt (q := 40) (tgt := 63) 19 rfl rfl (fun hb => ?_) (fun hb => ?_)
      · skip
        have b11 := hb
        replace h := h.1 hb
        refine s_iconst (q := 64) 31 rfl ?_
        exact s_zret 32 rfl rfl (by decide) h
      · skip
        have b11 := hb
        replace h := h.2 hb
        refine s_aload_n (q := 41) 20 0 rfl rfl ?_
        refine n_getf (q := 44) (jj := 27) 21 12 27 rfl kX12_51 c7 ?_
        refine s_iload_n (q := 45) 22 1 rfl rfl ?_
        refine n_iald (q := 46) 23 rfl c8 c9 ?_
        refine s_i2l (q := 47) 24 rfl ?_
        refine s_ldc2 (q := 50) (x := 25) 25 rfl kX12_306 ?_
        refine s_ldc2 (q := 53) (x := 27) 26 rfl kX12_308 ?_
        refine n_callS (N := mX12_in) (as := [(1, E (F x0 27) x1), (1, 25), (1, 27)]) (st := []) (q := 56) (d' := 0) 27 rfl uX12_in kX12_197 rfl (pX12_in ?_)
        show PW l G 1 mX12_isCompared bg 56 [(0, (2, x0)), (1, (0, x1))] [(0, bI (25 ≤ E (F x0 27) x1 ∧ E (F x0 27) x1 ≤ 27))] (n, K, F, E) Q
        refine s_if_eq (q := 59) (tgt := 63) 28 rfl rfl (fun hb => ?_) (fun hb => ?_)
        · have hb := bI_f hb
          have b12 := hb
          replace h := h.1 hb
          refine s_iconst (q := 64) 31 rfl ?_
          exact s_zret 32 rfl rfl (by decide) h
        · have hb := bI_t hb
          have b12 := hb
          replace h := h.2 hb
          refine s_iconst (q := 60) 29 rfl ?_
          refine s_goto (tgt := 64) 30 rfl rfl ?_
          exact s_zret 32 rfl rfl (by decide) h
    · have hb := bI_t hb
      have b10 := hb
      replace h := h.2 hb
      obtain ⟨c13, h⟩ := h
      refine n_iinc (q := 33) (lv' := [(1, (0, x1 + (-1))), (0, (2, x0))]) 16 1 rfl rfl c13 rfl ?_
      refine s_goto (tgt := 7) 17 rfl rfl ?_
      refine PW.pick [1, 0] rfl ?_
      exact h
theorem vX12_partAt_0 {l : Launch} {G : pG} {bg : Nat × Nat} {n : Nat} {K : Int → Nat × Nat} {F E : Int → Int → Int} {Q : Option pV → pM → Prop} (x0 : Int) (h : PW l G 1 mX12_partAt bg 4 [(0, (2, x0)), (1, (0, (-1))), (2, (0, 0))] [] (n, K, F, E) Q) : PW l G 1 mX12_partAt bg 0 [(0, (2, x0))] [] (n, K, F, E) Q := by
  refine s_iconst (q := 1) 0 rfl ?_
  refine s_istore_n (q := 2) (lv' := [(1, (0, (-1))), (0, (2, x0))]) 1 rfl rfl ?_
  refine s_iconst (q := 3) 2 rfl ?_
  refine s_istore_n (q := 4) (lv' := [(2, (0, 0)), (1, (0, (-1))), (0, (2, x0))]) 3 rfl rfl ?_
  refine PW.pick [2, 1, 0] rfl ?_
  exact h
theorem vX12_partAt_4 {l : Launch} {G : pG} {bg : Nat × Nat} {n : Nat} {K : Int → Nat × Nat} {F E : Int → Int → Int} {Q : Option pV → pM → Prop} (x0 x1 x2 : Int) (h : ((9 ≤ x2 → Q (some (0, x1)) (n, K, F, E)) ∧ (¬ (9 ≤ x2) → (K x0).1 = 12 ∧ (0 : Int) ≤ F x0 31 ∧ (K (F x0 31)).1 = 21 ∧ ((0 : Int) ≤ x2 ∧ x2 < ((K (F x0 31)).2 : Int)) ∧ ((¬ (F x0 16 = 1 ∧ F x0 17 = E (F x0 31) x2) → (-2147483648 ≤ x2 + 1 ∧ x2 + 1 < 2147483648) ∧ PW l G 1 mX12_partAt bg 4 [(0, (2, x0)), (1, (0, x1)), (2, (0, x2 + 1))] [] (n, K, F, E) Q) ∧ (F x0 16 = 1 ∧ F x0 17 = E (F x0 31) x2 → (-2147483648 ≤ x2 + 1 ∧ x2 + 1 < 2147483648) ∧ PW l G 1 mX12_partAt bg 4 [(0, (2, x0)), (1, (0, x2 + 1)), (2, (0, x2 + 1))] [] (n, K, F, E) Q))))) : PW l G 1 mX12_partAt bg 4 [(0, (2, x0)), (1, (0, x1)), (2, (0, x2))] [] (n, K, F, E) Q := by
  refine s_iload_n (q := 5) 4 2 rfl rfl ?_
  refine s_bipush (q := 7) 5 rfl ?_
  refine s_icmp_ge (q := 10) (tgt := 37) 6 rfl rfl (fun hb => ?_) (fun hb => ?_)
  · skip
    have b1 := hb
    replace h := h.1 hb
    refine s_iload_n (q := 38) 22 1 rfl rfl ?_
    exact s_iret 23 rfl rfl h
  · skip
    have b1 := hb
    replace h := h.2 hb
    refine s_aload_n (q := 11) 7 0 rfl rfl ?_
    refine s_aload_n (q := 12) 8 0 rfl rfl ?_
    obtain ⟨c2, h⟩ := h
    refine n_getf (q := 15) (jj := 31) 9 12 31 rfl kX12_73 c2 ?_
    refine s_iload_n (q := 16) 10 2 rfl rfl ?_
    obtain ⟨c3, h⟩ := h
    obtain ⟨c4, h⟩ := h
    obtain ⟨c5, h⟩ := h
    refine n_lald (q := 17) 11 rfl c3 c4 c5 ?_
    refine n_callV (N := mX12_isWord) (as := [(1, E (F x0 31) x2)]) (st := []) (q := 20) (d' := 0) 12 rfl uX12_isWord kX12_310 rfl c2 (pX12_isWord c2 ?_)
    show PW l G 1 mX12_partAt bg 20 [(0, (2, x0)), (1, (0, x1)), (2, (0, x2))] [(0, bI (F x0 16 = 1 ∧ F x0 17 = E (F x0 31) x2))] (n, K, F, E) Q
    refine s_if_eq (q := 23) (tgt := 29) 13 rfl rfl (fun hb => ?_) (fun hb => ?_)
    · have hb := bI_f hb
      have b6 := hb
      replace h := h.1 hb
      refine s_iload_n (q := 30) 18 1 rfl rfl ?_
      refine s_istore_n (q := 31) (lv' := [(1, (0, x1)), (0, (2, x0)), (2, (0, x2))]) 19 rfl rfl ?_
      obtain ⟨c7, h⟩ := h
      refine n_iinc (q := 34) (lv' := [(2, (0, x2 + 1)), (1, (0, x1)), (0, (2, x0))]) 20 2 rfl rfl c7 rfl ?_
      refine s_goto (tgt := 4) 21 rfl rfl ?_
      refine PW.pick [2, 1, 0] rfl ?_
      exact h
    · have hb := bI_t hb
      have b6 := hb
      replace h := h.2 hb
      refine s_iload_n (q := 24) 14 2 rfl rfl ?_
      refine s_iconst (q := 25) 15 rfl ?_
      obtain ⟨c8, h⟩ := h
      refine n_iadd (q := 26) 16 rfl c8 ?_
      refine s_goto (tgt := 30) 17 rfl rfl ?_
      refine s_istore_n (q := 31) (lv' := [(1, (0, x2 + 1)), (0, (2, x0)), (2, (0, x2))]) 19 rfl rfl ?_
      refine n_iinc (q := 34) (lv' := [(2, (0, x2 + 1)), (1, (0, x2 + 1)), (0, (2, x0))]) 20 2 rfl rfl c8 rfl ?_
      refine s_goto (tgt := 4) 21 rfl rfl ?_
      refine PW.pick [2, 1, 0] rfl ?_
      exact h
theorem vX12_orderPartAt_0 {l : Launch} {G : pG} {bg : Nat × Nat} {n : Nat} {K : Int → Nat × Nat} {F E : Int → Int → Int} {Q : Option pV → pM → Prop} (x0 : Int) (h : PW l G 1 mX12_orderPartAt bg 4 [(0, (2, x0)), (1, (0, (-1))), (2, (0, 0))] [] (n, K, F, E) Q) : PW l G 1 mX12_orderPartAt bg 0 [(0, (2, x0))] [] (n, K, F, E) Q := by
  refine s_iconst (q := 1) 0 rfl ?_
  refine s_istore_n (q := 2) (lv' := [(1, (0, (-1))), (0, (2, x0))]) 1 rfl rfl ?_
  refine s_iconst (q := 3) 2 rfl ?_
  refine s_istore_n (q := 4) (lv' := [(2, (0, 0)), (1, (0, (-1))), (0, (2, x0))]) 3 rfl rfl ?_
  refine PW.pick [2, 1, 0] rfl ?_
  exact h
theorem vX12_orderPartAt_4 {l : Launch} {G : pG} {bg : Nat × Nat} {n : Nat} {K : Int → Nat × Nat} {F E : Int → Int → Int} {Q : Option pV → pM → Prop} (x0 x1 x2 : Int) (h : ((7 ≤ x2 → Q (some (0, x1)) (n, K, F, E)) ∧ (¬ (7 ≤ x2) → (K x0).1 = 12 ∧ (0 : Int) ≤ F x0 32 ∧ (K (F x0 32)).1 = 21 ∧ ((0 : Int) ≤ x2 ∧ x2 < ((K (F x0 32)).2 : Int)) ∧ ((¬ (F x0 16 = 1 ∧ F x0 17 = E (F x0 32) x2) → (-2147483648 ≤ x2 + 1 ∧ x2 + 1 < 2147483648) ∧ PW l G 1 mX12_orderPartAt bg 4 [(0, (2, x0)), (1, (0, x1)), (2, (0, x2 + 1))] [] (n, K, F, E) Q) ∧ (F x0 16 = 1 ∧ F x0 17 = E (F x0 32) x2 → (-2147483648 ≤ x2 + 1 ∧ x2 + 1 < 2147483648) ∧ PW l G 1 mX12_orderPartAt bg 4 [(0, (2, x0)), (1, (0, x2 + 1)), (2, (0, x2 + 1))] [] (n, K, F, E) Q))))) : PW l G 1 mX12_orderPartAt bg 4 [(0, (2, x0)), (1, (0, x1)), (2, (0, x2))] [] (n, K, F, E) Q := by
  refine s_iload_n (q := 5) 4 2 rfl rfl ?_
  refine s_bipush (q := 7) 5 rfl ?_
  refine s_icmp_ge (q := 10) (tgt := 37) 6 rfl rfl (fun hb => ?_) (fun hb => ?_)
  · skip
    have b1 := hb
    replace h := h.1 hb
    refine s_iload_n (q := 38) 22 1 rfl rfl ?_
    exact s_iret 23 rfl rfl h
  · skip
    have b1 := hb
    replace h := h.2 hb
    refine s_aload_n (q := 11) 7 0 rfl rfl ?_
    refine s_aload_n (q := 12) 8 0 rfl rfl ?_
    obtain ⟨c2, h⟩ := h
    refine n_getf (q := 15) (jj := 32) 9 12 32 rfl kX12_87 c2 ?_
    refine s_iload_n (q := 16) 10 2 rfl rfl ?_
    obtain ⟨c3, h⟩ := h
    obtain ⟨c4, h⟩ := h
    obtain ⟨c5, h⟩ := h
    refine n_lald (q := 17) 11 rfl c3 c4 c5 ?_
    refine n_callV (N := mX12_isWord) (as := [(1, E (F x0 32) x2)]) (st := []) (q := 20) (d' := 0) 12 rfl uX12_isWord kX12_310 rfl c2 (pX12_isWord c2 ?_)
    show PW l G 1 mX12_orderPartAt bg 20 [(0, (2, x0)), (1, (0, x1)), (2, (0, x2))] [(0, bI (F x0 16 = 1 ∧ F x0 17 = E (F x0 32) x2))] (n, K, F, E) Q
    refine s_if_eq (q := 23) (tgt := 29) 13 rfl rfl (fun hb => ?_) (fun hb => ?_)
    · have hb := bI_f hb
      have b6 := hb
      replace h := h.1 hb
      refine s_iload_n (q := 30) 18 1 rfl rfl ?_
      refine s_istore_n (q := 31) (lv' := [(1, (0, x1)), (0, (2, x0)), (2, (0, x2))]) 19 rfl rfl ?_
      obtain ⟨c7, h⟩ := h
      refine n_iinc (q := 34) (lv' := [(2, (0, x2 + 1)), (1, (0, x1)), (0, (2, x0))]) 20 2 rfl rfl c7 rfl ?_
      refine s_goto (tgt := 4) 21 rfl rfl ?_
      refine PW.pick [2, 1, 0] rfl ?_
      exact h
    · have hb := bI_t hb
      have b6 := hb
      replace h := h.2 hb
      refine s_iload_n (q := 24) 14 2 rfl rfl ?_
      refine s_iconst (q := 25) 15 rfl ?_
      obtain ⟨c8, h⟩ := h
      refine n_iadd (q := 26) 16 rfl c8 ?_
      refine s_goto (tgt := 30) 17 rfl rfl ?_
      refine s_istore_n (q := 31) (lv' := [(1, (0, x2 + 1)), (0, (2, x0)), (2, (0, x2))]) 19 rfl rfl ?_
      refine n_iinc (q := 34) (lv' := [(2, (0, x2 + 1)), (1, (0, x2 + 1)), (0, (2, x0))]) 20 2 rfl rfl c8 rfl ?_
      refine s_goto (tgt := 4) 21 rfl rfl ?_
      refine PW.pick [2, 1, 0] rfl ?_
      exact h
theorem vX12_openBracket_0 {l : Launch} {G : pG} {bg : Nat × Nat} {n : Nat} {K : Int → Nat × Nat} {F E : Int → Int → Int} {Q : Option pV → pM → Prop} (x0 x1 : Int) (h : (K x0).1 = 12 ∧ ((8 ≤ F x0 30 → PC l G 2 mX12_must (0, 0) [(2, x0), (0, 0)] (n, K, F, E) (fun r μ => PW l G 3 mX12_openBracket bg 18 [(0, (2, x0)), (1, (0, x1))] (r.toList ++ []) μ Q)) ∧ (¬ (8 ≤ F x0 30) → PC l G 2 mX12_must (0, 0) [(2, x0), (0, 1)] (n, K, F, E) (fun r μ => PW l G 3 mX12_openBracket bg 18 [(0, (2, x0)), (1, (0, x1))] (r.toList ++ []) μ Q)))) : PW l G 3 mX12_openBracket bg 0 [(0, (2, x0)), (1, (0, x1))] [] (n, K, F, E) Q := by
  refine s_aload_n (q := 1) 0 0 rfl rfl ?_
  refine s_aload_n (q := 2) 1 0 rfl rfl ?_
  obtain ⟨c1, h⟩ := h
  refine n_getf (q := 5) (jj := 30) 2 12 30 rfl kX12_314 c1 ?_
  refine s_bipush (q := 7) 3 rfl ?_
  refine s_icmp_ge (q := 10) (tgt := 14) 4 rfl rfl (fun hb => ?_) (fun hb => ?_)
  · skip
    have b2 := hb
    replace h := h.1 hb
    refine s_iconst (q := 15) 7 rfl ?_
    refine PW.pick [0, 1] rfl ?_
    exact n_callV (N := mX12_must) (as := [(0, 0)]) (st := []) (q := 18) (d' := 2) 8 rfl uX12_must kX12_285 rfl c1 h
  · skip
    have b2 := hb
    replace h := h.2 hb
    refine s_iconst (q := 11) 5 rfl ?_
    refine s_goto (tgt := 15) 6 rfl rfl ?_
    refine PW.pick [0, 1] rfl ?_
    exact n_callV (N := mX12_must) (as := [(0, 1)]) (st := []) (q := 18) (d' := 2) 8 rfl uX12_must kX12_285 rfl c1 h
theorem vX12_openBracket_18 {l : Launch} {G : pG} {bg : Nat × Nat} {n : Nat} {K : Int → Nat × Nat} {F E : Int → Int → Int} {Q : Option pV → pM → Prop} (x0 x1 : Int) (h : (K x0).1 = 12 ∧ ((¬ (F x0 19) = 0 → Q none (n, K, F, E)) ∧ ((F x0 19) = 0 → (-2147483648 ≤ (F x0 30) + 1 ∧ (F x0 30) + 1 < 2147483648) ∧ (∀ F1, F1 = pUp F x0 30 ((F x0 30) + 1) → (0 : Int) ≤ F x0 27 ∧ (K (F x0 27)).1 = 20 ∧ ((0 : Int) ≤ F x0 29 ∧ F x0 29 < ((K (F x0 27)).2 : Int)) ∧ (∀ E2, E2 = pUp E (F x0 27) (F x0 29) x1 → (0 : Int) ≤ F x0 28 ∧ (K (F x0 28)).1 = 20 ∧ ((0 : Int) ≤ F x0 29 ∧ F x0 29 < ((K (F x0 28)).2 : Int)) ∧ (∀ E3, E3 = pUp E2 (F x0 28) (F x0 29) 0 → (-2147483648 ≤ (F x0 29) + 1 ∧ (F x0 29) + 1 < 2147483648) ∧ (∀ F4, F4 = pUp F1 x0 29 ((F x0 29) + 1) → Q none (n, K, F4, E3)))))))) : PW l G 3 mX12_openBracket bg 18 [(0, (2, x0)), (1, (0, x1))] [] (n, K, F, E) Q := by
  refine s_aload_n (q := 19) 9 0 rfl rfl ?_
  obtain ⟨c1, h⟩ := h
  refine n_getf (q := 22) (jj := 19) 10 12 19 rfl kX12_252 c1 ?_
  refine s_if_ne (q := 25) (tgt := 41) 11 rfl rfl (fun hb => ?_) (fun hb => ?_)
  · skip
    have b2 := hb
    replace h := h.1 hb
    exact s_vret 22 rfl rfl h
  · have hb := Classical.not_not.mp hb
    have b2 := hb
    replace h := h.2 hb
    refine s_aload_n (q := 26) 12 0 rfl rfl ?_
    refine s_dup (q := 27) 13 rfl ?_
    refine n_getf (q := 30) (jj := 30) 14 12 30 rfl kX12_314 c1 ?_
    refine s_iconst (q := 31) 15 rfl ?_
    obtain ⟨c3, h⟩ := h
    refine n_iadd (q := 32) 16 rfl c3 ?_
    refine n_putf (q := 35) (jj := 30) 17 12 30 rfl kX12_314 c1 (Or.inl rfl) ?_
    refine PW.nameF (fun F1 eF1 => ?_)
    replace h := h F1 eF1
    refine s_aload_n (q := 36) 18 0 rfl rfl ?_
    refine s_iload_n (q := 37) 19 1 rfl rfl ?_
    refine s_iconst (q := 38) 20 rfl ?_
    refine n_callV (N := mX12_push) (as := [(0, x1), (0, 0)]) (st := []) (q := 41) (d' := 0) 21 rfl uX12_push kX12_317 rfl c1 ?_
    show PW l G 0 mX12_push (0, 0) 0 [(0, (2, x0)), (1, (0, x1)), (2, (0, 0))] [] (n, K, F1, E) _
    refine s_aload_n (q := 1) 0 0 rfl rfl ?_
    refine n_getf (q := 4) (jj := 27) 1 12 27 rfl kX12_51 c1 ?_
    refine PW.top (b := F x0 27) (by exact (congrFun (congrFun eF1 _) _).trans (pUp_k (by decide))) ?_
    refine s_aload_n (q := 5) 2 0 rfl rfl ?_
    refine n_getf (q := 8) (jj := 29) 3 12 29 rfl kX12_292 c1 ?_
    refine PW.top (b := F x0 29) (by exact (congrFun (congrFun eF1 _) _).trans (pUp_k (by decide))) ?_
    refine s_iload_n (q := 9) 4 1 rfl rfl ?_
    obtain ⟨c4, h⟩ := h
    obtain ⟨c5, h⟩ := h
    obtain ⟨c6, h⟩ := h
    refine n_iast (q := 10) 5 rfl c4 c5 c6 ?_
    refine PW.nameE (fun E2 eE2 => ?_)
    replace h := h E2 eE2
    refine s_aload_n (q := 11) 6 0 rfl rfl ?_
    refine n_getf (q := 14) (jj := 28) 7 12 28 rfl kX12_54 c1 ?_
    refine PW.top (b := F x0 28) (by exact (congrFun (congrFun eF1 _) _).trans (pUp_k (by decide))) ?_
    refine s_aload_n (q := 15) 8 0 rfl rfl ?_
    refine n_getf (q := 18) (jj := 29) 9 12 29 rfl kX12_292 c1 ?_
    refine PW.top (b := F x0 29) (by exact (congrFun (congrFun eF1 _) _).trans (pUp_k (by decide))) ?_
    refine s_iload_n (q := 19) 10 2 rfl rfl ?_
    obtain ⟨c7, h⟩ := h
    obtain ⟨c8, h⟩ := h
    obtain ⟨c9, h⟩ := h
    refine n_iast (q := 20) 11 rfl c7 c8 c9 ?_
    refine PW.nameE (fun E3 eE3 => ?_)
    replace h := h E3 eE3
    refine s_aload_n (q := 21) 12 0 rfl rfl ?_
    refine s_dup (q := 22) 13 rfl ?_
    refine n_getf (q := 25) (jj := 29) 14 12 29 rfl kX12_292 c1 ?_
    refine PW.top (b := F x0 29) (by exact (congrFun (congrFun eF1 _) _).trans (pUp_k (by decide))) ?_
    refine s_iconst (q := 26) 15 rfl ?_
    obtain ⟨c10, h⟩ := h
    refine n_iadd (q := 27) 16 rfl c10 ?_
    refine n_putf (q := 30) (jj := 29) 17 12 29 rfl kX12_292 c1 (Or.inl rfl) ?_
    refine PW.nameF (fun F4 eF4 => ?_)
    replace h := h F4 eF4
    refine s_vret 18 rfl rfl ?_
    show PW l G 3 mX12_openBracket bg 41 [(0, (2, x0)), (1, (0, x1))] [] (n, K, F4, E3) Q
    exact s_vret 22 rfl rfl h
theorem vX12_leaf_0 {l : Launch} {G : pG} {bg : Nat × Nat} {n : Nat} {K : Int → Nat × Nat} {F E : Int → Int → Int} {Q : Option pV → pM → Prop} (x0 x1 x2 x3 : Int) (h : ((x1 = 0 → (K x0).1 = 12 ∧ PC l G 2 mX12_must (0, 0) [(2, x0), (0, 0)] (n, K, F, E) (fun r μ => PW l G 3 mX12_leaf bg 22 [(0, (2, x0)), (2, (0, x2)), (3, (0, x3))] (r.toList ++ []) μ Q)) ∧ (¬ (x1 = 0) → (K x0).1 = 12 ∧ ((50 ≤ F x0 26 → PC l G 2 mX12_must (0, 0) [(2, x0), (0, 0)] (n, K, F, E) (fun r μ => PW l G 3 mX12_leaf bg 22 [(0, (2, x0)), (2, (0, x2)), (3, (0, x3))] (r.toList ++ []) μ Q)) ∧ (¬ (50 ≤ F x0 26) → PC l G 2 mX12_must (0, 0) [(2, x0), (0, 1)] (n, K, F, E) (fun r μ => PW l G 3 mX12_leaf bg 22 [(0, (2, x0)), (2, (0, x2)), (3, (0, x3))] (r.toList ++ []) μ Q)))))) : PW l G 3 mX12_leaf bg 0 [(0, (2, x0)), (1, (0, x1)), (2, (0, x2)), (3, (0, x3))] [] (n, K, F, E) Q := by
  refine s_aload_n (q := 1) 0 0 rfl rfl ?_
  refine s_iload_n (q := 2) 1 1 rfl rfl ?_
  refine s_if_eq (q := 5) (tgt := 18) 2 rfl rfl (fun hb => ?_) (fun hb => ?_)
  · skip
    have b1 := hb
    replace h := h.1 hb
    refine s_iconst (q := 19) 9 rfl ?_
    obtain ⟨c2, h⟩ := h
    refine PW.pick [0, 2, 3] rfl ?_
    exact n_callV (N := mX12_must) (as := [(0, 0)]) (st := []) (q := 22) (d' := 2) 10 rfl uX12_must kX12_285 rfl c2 h
  · skip
    have b1 := hb
    replace h := h.2 hb
    refine s_aload_n (q := 6) 3 0 rfl rfl ?_
    obtain ⟨c3, h⟩ := h
    refine n_getf (q := 9) (jj := 26) 4 12 26 rfl kX12_320 c3 ?_
    refine s_bipush (q := 11) 5 rfl ?_
    refine s_icmp_ge (q := 14) (tgt := 18) 6 rfl rfl (fun hb => ?_) (fun hb => ?_)
    · skip
      have b4 := hb
      replace h := h.1 hb
      refine s_iconst (q := 19) 9 rfl ?_
      refine PW.pick [0, 2, 3] rfl ?_
      exact n_callV (N := mX12_must) (as := [(0, 0)]) (st := []) (q := 22) (d' := 2) 10 rfl uX12_must kX12_285 rfl c3 h
    · skip
      have b4 := hb
      replace h := h.2 hb
      refine s_iconst (q := 15) 7 rfl ?_
      refine s_goto (tgt := 19) 8 rfl rfl ?_
      refine PW.pick [0, 2, 3] rfl ?_
      exact n_callV (N := mX12_must) (as := [(0, 1)]) (st := []) (q := 22) (d' := 2) 10 rfl uX12_must kX12_285 rfl c3 h
theorem vX12_leaf_22 {l : Launch} {G : pG} {bg : Nat × Nat} {n : Nat} {K : Int → Nat × Nat} {F E : Int → Int → Int} {Q : Option pV → pM → Prop} (x0 x2 x3 : Int) (h : (K x0).1 = 12 ∧ ((¬ (F x0 19) = 0 → Q none (n, K, F, E)) ∧ ((F x0 19) = 0 → (0 : Int) ≤ F x0 24 ∧ (K (F x0 24)).1 = 20 ∧ ((0 : Int) ≤ F x0 23 ∧ F x0 23 < ((K (F x0 24)).2 : Int)) ∧ (∀ E1, E1 = pUp E (F x0 24) (F x0 23) x2 → (0 : Int) ≤ F x0 25 ∧ (K (F x0 25)).1 = 20 ∧ ((0 : Int) ≤ F x0 23 ∧ F x0 23 < ((K (F x0 25)).2 : Int)) ∧ (∀ E2, E2 = pUp E1 (F x0 25) (F x0 23) x3 → (-2147483648 ≤ (F x0 23) + 1 ∧ (F x0 23) + 1 < 2147483648) ∧ (∀ F3, F3 = pUp F x0 23 ((F x0 23) + 1) → (-2147483648 ≤ (F x0 26) + 1 ∧ (F x0 26) + 1 < 2147483648) ∧ (∀ F4, F4 = pUp F3 x0 26 ((F x0 26) + 1) → Q none (n, K, F4, E2)))))))) : PW l G 3 mX12_leaf bg 22 [(0, (2, x0)), (2, (0, x2)), (3, (0, x3))] [] (n, K, F, E) Q := by
  refine s_aload_n (q := 23) 11 0 rfl rfl ?_
  obtain ⟨c1, h⟩ := h
  refine n_getf (q := 26) (jj := 19) 12 12 19 rfl kX12_252 c1 ?_
  refine s_if_ne (q := 29) (tgt := 45) 13 rfl rfl (fun hb => ?_) (fun hb => ?_)
  · skip
    have b2 := hb
    replace h := h.1 hb
    exact s_vret 24 rfl rfl h
  · have hb := Classical.not_not.mp hb
    have b2 := hb
    replace h := h.2 hb
    refine s_aload_n (q := 30) 14 0 rfl rfl ?_
    refine s_iload_n (q := 31) 15 1 rfl rfl ?_
    refine s_iload_n (q := 32) 16 2 rfl rfl ?_
    refine n_callV (N := mX12_emit) (as := [(0, x2), (0, x3)]) (st := []) (q := 35) (d' := 0) 17 rfl uX12_emit kX12_298 rfl c1 ?_
    show PW l G 0 mX12_emit (0, 0) 0 [(0, (2, x0)), (1, (0, x2)), (2, (0, x3))] [] (n, K, F, E) _
    refine s_aload_n (q := 1) 0 0 rfl rfl ?_
    refine n_getf (q := 4) (jj := 24) 1 12 24 rfl kX12_45 c1 ?_
    refine s_aload_n (q := 5) 2 0 rfl rfl ?_
    refine n_getf (q := 8) (jj := 23) 3 12 23 rfl kX12_289 c1 ?_
    refine s_iload_n (q := 9) 4 1 rfl rfl ?_
    obtain ⟨c3, h⟩ := h
    obtain ⟨c4, h⟩ := h
    obtain ⟨c5, h⟩ := h
    refine n_iast (q := 10) 5 rfl c3 c4 c5 ?_
    refine PW.nameE (fun E1 eE1 => ?_)
    replace h := h E1 eE1
    refine s_aload_n (q := 11) 6 0 rfl rfl ?_
    refine n_getf (q := 14) (jj := 25) 7 12 25 rfl kX12_48 c1 ?_
    refine s_aload_n (q := 15) 8 0 rfl rfl ?_
    refine n_getf (q := 18) (jj := 23) 9 12 23 rfl kX12_289 c1 ?_
    refine s_iload_n (q := 19) 10 2 rfl rfl ?_
    obtain ⟨c6, h⟩ := h
    obtain ⟨c7, h⟩ := h
    obtain ⟨c8, h⟩ := h
    refine n_iast (q := 20) 11 rfl c6 c7 c8 ?_
    refine PW.nameE (fun E2 eE2 => ?_)
    replace h := h E2 eE2
    refine s_aload_n (q := 21) 12 0 rfl rfl ?_
    refine s_dup (q := 22) 13 rfl ?_
    refine n_getf (q := 25) (jj := 23) 14 12 23 rfl kX12_289 c1 ?_
    refine s_iconst (q := 26) 15 rfl ?_
    obtain ⟨c9, h⟩ := h
    refine n_iadd (q := 27) 16 rfl c9 ?_
    refine n_putf (q := 30) (jj := 23) 17 12 23 rfl kX12_289 c1 (Or.inl rfl) ?_
    refine PW.nameF (fun F3 eF3 => ?_)
    replace h := h F3 eF3
    refine s_vret 18 rfl rfl ?_
    show PW l G 3 mX12_leaf bg 35 [(0, (2, x0)), (2, (0, x2)), (3, (0, x3))] [] (n, K, F3, E2) Q
    refine s_aload_n (q := 36) 18 0 rfl rfl ?_
    refine s_dup (q := 37) 19 rfl ?_
    refine n_getf (q := 40) (jj := 26) 20 12 26 rfl kX12_320 c1 ?_
    refine PW.top (b := F x0 26) (by exact (congrFun (congrFun eF3 _) _).trans (pUp_k (by decide))) ?_
    refine s_iconst (q := 41) 21 rfl ?_
    obtain ⟨c10, h⟩ := h
    refine n_iadd (q := 42) 22 rfl c10 ?_
    refine n_putf (q := 45) (jj := 26) 23 12 26 rfl kX12_320 c1 (Or.inl rfl) ?_
    refine PW.nameF (fun F4 eF4 => ?_)
    replace h := h F4 eF4
    exact s_vret 24 rfl rfl h
theorem vX12_readPart_0 {l : Launch} {G : pG} {bg : Nat × Nat} {n : Nat} {K : Int → Nat × Nat} {F E : Int → Int → Int} {Q : Option pV → pM → Prop} (x0 : Int) (h : (K x0).1 = 12 ∧ ((¬ (F x0 16 = 3 ∧ F x0 17 = 91) → ((F x0 20 = 0 → PC l G 1 mX12_partAt (0, 0) [(2, x0)] (n, K, F, E) (fun r μ => PW l G 4 mX12_readPart bg 35 [(0, (2, x0))] (r.toList ++ []) μ Q)) ∧ (¬ (F x0 20 = 0) → PC l G 1 mX12_orderPartAt (0, 0) [(2, x0)] (n, K, F, E) (fun r μ => PW l G 4 mX12_readPart bg 28 [(0, (2, x0))] (r.toList ++ []) μ Q)))) ∧ (F x0 16 = 3 ∧ F x0 17 = 91 → PC l G 3 mX12_openBracket (0, 0) [(2, x0), (0, 32)] (n, K, F, E) (fun r μ => PW l G 4 mX12_readPart bg 15 [] (r.toList ++ []) μ Q)))) : PW l G 4 mX12_readPart bg 0 [(0, (2, x0))] [] (n, K, F, E) Q := by
  refine s_aload_n (q := 1) 0 0 rfl rfl ?_
  refine s_bipush (q := 3) 1 rfl ?_
  obtain ⟨c1, h⟩ := h
  refine n_callV (N := mX12_isSign) (as := [(0, 91)]) (st := []) (q := 6) (d' := 0) 2 rfl uX12_isSign kX12_323 rfl c1 (pX12_isSign c1 ?_)
  show PW l G 4 mX12_readPart bg 6 [(0, (2, x0))] [(0, bI (F x0 16 = 3 ∧ F x0 17 = 91))] (n, K, F, E) Q
  refine s_if_eq (q := 9) (tgt := 17) 3 rfl rfl (fun hb => ?_) (fun hb => ?_)
  · have hb := bI_f hb
    have b2 := hb
    replace h := h.1 hb
    refine s_aload_n (q := 18) 9 0 rfl rfl ?_
    refine n_getf (q := 21) (jj := 20) 10 12 20 rfl kX12_329 c1 ?_
    refine s_if_eq (q := 24) (tgt := 31) 11 rfl rfl (fun hb => ?_) (fun hb => ?_)
    · skip
      have b3 := hb
      replace h := h.1 hb
      refine s_aload_n (q := 32) 15 0 rfl rfl ?_
      refine PW.pick [0] rfl ?_
      exact n_callV (N := mX12_partAt) (as := []) (st := []) (q := 35) (d' := 1) 16 rfl uX12_partAt kX12_336 rfl c1 h
    · skip
      have b3 := hb
      replace h := h.2 hb
      refine s_aload_n (q := 25) 12 0 rfl rfl ?_
      refine PW.pick [0] rfl ?_
      exact n_callV (N := mX12_orderPartAt) (as := []) (st := []) (q := 28) (d' := 1) 13 rfl uX12_orderPartAt kX12_332 rfl c1 h
  · have hb := bI_t hb
    have b2 := hb
    replace h := h.2 hb
    refine s_aload_n (q := 10) 4 0 rfl rfl ?_
    refine s_bipush (q := 12) 5 rfl ?_
    refine PW.pick [] rfl ?_
    exact n_callV (N := mX12_openBracket) (as := [(0, 32)]) (st := []) (q := 15) (d' := 3) 6 rfl uX12_openBracket kX12_326 rfl c1 h
theorem vX12_readPart_15 {l : Launch} {G : pG} {bg : Nat × Nat} {n : Nat} {K : Int → Nat × Nat} {F E : Int → Int → Int} {Q : Option pV → pM → Prop} (h : Q (some (0, 1)) (n, K, F, E)) : PW l G 4 mX12_readPart bg 15 [] [] (n, K, F, E) Q := by
  refine s_iconst (q := 16) 7 rfl ?_
  exact s_iret 8 rfl rfl h
theorem vX12_readPart_28 {l : Launch} {G : pG} {bg : Nat × Nat} {n : Nat} {K : Int → Nat × Nat} {F E : Int → Int → Int} {Q : Option pV → pM → Prop} (x0 s0 : Int) (h : (K x0).1 = 12 ∧ ((¬ (F x0 16) = 2 → ((¬ s0 = (-1) → ((¬ s0 = (-1) → PC l G 3 mX12_leaf (0, 0) [(2, x0), (0, 1), (0, s0), (0, 0)] (n, K, F, E) (fun r μ => PW l G 4 mX12_readPart bg 102 [(0, (2, x0)), (1, (0, s0))] (r.toList ++ []) μ Q)) ∧ (s0 = (-1) → PC l G 3 mX12_leaf (0, 0) [(2, x0), (0, 1), (0, 0), (0, 0)] (n, K, F, E) (fun r μ => PW l G 4 mX12_readPart bg 102 [(0, (2, x0)), (1, (0, s0))] (r.toList ++ []) μ Q)))) ∧ (s0 = (-1) → ((¬ s0 = (-1) → PC l G 3 mX12_leaf (0, 0) [(2, x0), (0, 0), (0, s0), (0, 0)] (n, K, F, E) (fun r μ => PW l G 4 mX12_readPart bg 102 [(0, (2, x0)), (1, (0, s0))] (r.toList ++ []) μ Q)) ∧ (s0 = (-1) → PC l G 3 mX12_leaf (0, 0) [(2, x0), (0, 0), (0, 0), (0, 0)] (n, K, F, E) (fun r μ => PW l G 4 mX12_readPart bg 102 [(0, (2, x0)), (1, (0, s0))] (r.toList ++ []) μ Q)))))) ∧ ((F x0 16) = 2 → ((1000 < F x0 17 → ((¬ s0 = (-1) → ((¬ s0 = (-1) → PC l G 3 mX12_leaf (0, 0) [(2, x0), (0, 1), (0, s0), (0, 0)] (n, K, F, E) (fun r μ => PW l G 4 mX12_readPart bg 102 [(0, (2, x0)), (1, (0, s0))] (r.toList ++ []) μ Q)) ∧ (s0 = (-1) → PC l G 3 mX12_leaf (0, 0) [(2, x0), (0, 1), (0, 0), (0, 0)] (n, K, F, E) (fun r μ => PW l G 4 mX12_readPart bg 102 [(0, (2, x0)), (1, (0, s0))] (r.toList ++ []) μ Q)))) ∧ (s0 = (-1) → ((¬ s0 = (-1) → PC l G 3 mX12_leaf (0, 0) [(2, x0), (0, 0), (0, s0), (0, 0)] (n, K, F, E) (fun r μ => PW l G 4 mX12_readPart bg 102 [(0, (2, x0)), (1, (0, s0))] (r.toList ++ []) μ Q)) ∧ (s0 = (-1) → PC l G 3 mX12_leaf (0, 0) [(2, x0), (0, 0), (0, 0), (0, 0)] (n, K, F, E) (fun r μ => PW l G 4 mX12_readPart bg 102 [(0, (2, x0)), (1, (0, s0))] (r.toList ++ []) μ Q)))))) ∧ (¬ (1000 < F x0 17) → ((¬ s0 = (-1) → ((¬ s0 = (-1) → (-2147483648 ≤ F x0 17 ∧ F x0 17 < 2147483648) ∧ PC l G 3 mX12_leaf (0, 0) [(2, x0), (0, 1), (0, s0), (0, F x0 17)] (n, K, F, E) (fun r μ => PW l G 4 mX12_readPart bg 102 [(0, (2, x0)), (1, (0, s0))] (r.toList ++ []) μ Q)) ∧ (s0 = (-1) → (-2147483648 ≤ F x0 17 ∧ F x0 17 < 2147483648) ∧ PC l G 3 mX12_leaf (0, 0) [(2, x0), (0, 1), (0, 0), (0, F x0 17)] (n, K, F, E) (fun r μ => PW l G 4 mX12_readPart bg 102 [(0, (2, x0)), (1, (0, s0))] (r.toList ++ []) μ Q)))) ∧ (s0 = (-1) → ((¬ s0 = (-1) → (-2147483648 ≤ F x0 17 ∧ F x0 17 < 2147483648) ∧ PC l G 3 mX12_leaf (0, 0) [(2, x0), (0, 1), (0, s0), (0, F x0 17)] (n, K, F, E) (fun r μ => PW l G 4 mX12_readPart bg 102 [(0, (2, x0)), (1, (0, s0))] (r.toList ++ []) μ Q)) ∧ (s0 = (-1) → (-2147483648 ≤ F x0 17 ∧ F x0 17 < 2147483648) ∧ PC l G 3 mX12_leaf (0, 0) [(2, x0), (0, 1), (0, 0), (0, F x0 17)] (n, K, F, E) (fun r μ => PW l G 4 mX12_readPart bg 102 [(0, (2, x0)), (1, (0, s0))] (r.toList ++ []) μ Q)))))))))) : PW l G 4 mX12_readPart bg 28 [(0, (2, x0))] [(0, s0)] (n, K, F, E) Q := by
  refine s_goto (tgt := 35) 14 rfl rfl ?_
  refine s_istore_n (q := 36) (lv' := [(1, (0, s0)), (0, (2, x0))]) 17 rfl rfl ?_
  refine s_aload_n (q := 37) 18 1 rfl rfl ?_
  obtain ⟨c1, h⟩ := h
  refine n_getf (q := 40) (jj := 16) 19 12 16 rfl kX12_272 c1 ?_
  refine s_iconst (q := 41) 20 rfl ?_
  refine s_icmp_ne (q := 44) (tgt := 59) 21 rfl rfl (fun hb => ?_) (fun hb => ?_)
  · skip
    have b2 := hb
    replace h := h.1 hb
    refine s_iconst (q := 60) 29 rfl ?_
    refine s_istore_n (q := 61) (lv' := [(2, (0, 0)), (1, (0, s0)), (0, (2, x0))]) 30 rfl rfl ?_
    refine s_aload_n (q := 62) 31 2 rfl rfl ?_
    refine s_iload_n (q := 63) 32 1 rfl rfl ?_
    refine s_iconst (q := 64) 33 rfl ?_
    refine s_icmp_ne (q := 67) (tgt := 71) 34 rfl rfl (fun hb => ?_) (fun hb => ?_)
    · skip
      have b3 := hb
      replace h := h.1 hb
      refine s_iconst (q := 72) 37 rfl ?_
      refine s_goto (tgt := 76) 38 rfl rfl ?_
      refine s_iload_n (q := 77) 40 1 rfl rfl ?_
      refine s_iconst (q := 78) 41 rfl ?_
      refine s_icmp_ne (q := 81) (tgt := 85) 42 rfl rfl (fun hb => ?_) (fun hb => ?_)
      · skip
        have b4 := hb
        replace h := h.1 hb
        refine s_iload_n (q := 86) 45 1 rfl rfl ?_
        refine s_iload_n (q := 87) 46 0 rfl rfl ?_
        refine s_if_eq (q := 90) (tgt := 98) 47 rfl rfl (fun _ => ?_) (fun hb => absurd (by decide) hb)
        refine s_iconst (q := 99) 52 rfl ?_
        refine PW.pick [2, 1] rfl ?_
        exact n_callV (N := mX12_leaf) (as := [(0, 1), (0, s0), (0, 0)]) (st := []) (q := 102) (d' := 3) 53 rfl uX12_leaf kX12_341 rfl c1 h
      · have hb := Classical.not_not.mp hb
        have b4 := hb
        replace h := h.2 hb
        refine s_iconst (q := 82) 43 rfl ?_
        refine s_goto (tgt := 86) 44 rfl rfl ?_
        refine s_iload_n (q := 87) 46 0 rfl rfl ?_
        refine s_if_eq (q := 90) (tgt := 98) 47 rfl rfl (fun _ => ?_) (fun hb => absurd (by decide) hb)
        refine s_iconst (q := 99) 52 rfl ?_
        refine PW.pick [2, 1] rfl ?_
        exact n_callV (N := mX12_leaf) (as := [(0, 1), (0, 0), (0, 0)]) (st := []) (q := 102) (d' := 3) 53 rfl uX12_leaf kX12_341 rfl c1 h
    · have hb := Classical.not_not.mp hb
      have b3 := hb
      replace h := h.2 hb
      refine s_iload_n (q := 68) 35 0 rfl rfl ?_
      refine s_if_eq (q := 71) (tgt := 75) 36 rfl rfl (fun _ => ?_) (fun hb => absurd (by decide) hb)
      refine s_iconst (q := 76) 39 rfl ?_
      refine s_iload_n (q := 77) 40 1 rfl rfl ?_
      refine s_iconst (q := 78) 41 rfl ?_
      refine s_icmp_ne (q := 81) (tgt := 85) 42 rfl rfl (fun hb => ?_) (fun hb => ?_)
      · skip
        have b5 := hb
        replace h := h.1 hb
        refine s_iload_n (q := 86) 45 1 rfl rfl ?_
        refine s_iload_n (q := 87) 46 0 rfl rfl ?_
        refine s_if_eq (q := 90) (tgt := 98) 47 rfl rfl (fun _ => ?_) (fun hb => absurd (by decide) hb)
        refine s_iconst (q := 99) 52 rfl ?_
        refine PW.pick [2, 1] rfl ?_
        exact n_callV (N := mX12_leaf) (as := [(0, 0), (0, s0), (0, 0)]) (st := []) (q := 102) (d' := 3) 53 rfl uX12_leaf kX12_341 rfl c1 h
      · have hb := Classical.not_not.mp hb
        have b5 := hb
        replace h := h.2 hb
        refine s_iconst (q := 82) 43 rfl ?_
        refine s_goto (tgt := 86) 44 rfl rfl ?_
        refine s_iload_n (q := 87) 46 0 rfl rfl ?_
        refine s_if_eq (q := 90) (tgt := 98) 47 rfl rfl (fun _ => ?_) (fun hb => absurd (by decide) hb)
        refine s_iconst (q := 99) 52 rfl ?_
        refine PW.pick [2, 1] rfl ?_
        exact n_callV (N := mX12_leaf) (as := [(0, 0), (0, 0), (0, 0)]) (st := []) (q := 102) (d' := 3) 53 rfl uX12_leaf kX12_341 rfl c1 h
  · have hb := Classical.not_not.mp hb
    have b2 := hb
    replace h := h.2 hb
    refine s_aload_n (q := 45) 22 1 rfl rfl ?_
    refine n_getf (q := 48) (jj := 17) 23 12 17 rfl kX12_262 c1 ?_
    refine s_ldc2 (q := 51) (x := 1000) 24 rfl kX12_339 ?_
    refine s_lcmp (q := 52) 25 rfl ?_
    refine s_if_gt (q := 55) (tgt := 59) 26 rfl rfl (fun hb => ?_) (fun hb => ?_)
    · have hb := lCmp_gt.mp hb
      have b6 := hb
      replace h := h.1 hb
      refine s_iconst (q := 60) 29 rfl ?_
      refine s_istore_n (q := 61) (lv' := [(2, (0, 0)), (1, (0, s0)), (0, (2, x0))]) 30 rfl rfl ?_
      refine s_aload_n (q := 62) 31 2 rfl rfl ?_
      refine s_iload_n (q := 63) 32 1 rfl rfl ?_
      refine s_iconst (q := 64) 33 rfl ?_
      refine s_icmp_ne (q := 67) (tgt := 71) 34 rfl rfl (fun hb => ?_) (fun hb => ?_)
      · skip
        have b7 := hb
        replace h := h.1 hb
        refine s_iconst (q := 72) 37 rfl ?_
        refine s_goto (tgt := 76) 38 rfl rfl ?_
        refine s_iload_n (q := 77) 40 1 rfl rfl ?_
        refine s_iconst (q := 78) 41 rfl ?_
        refine s_icmp_ne (q := 81) (tgt := 85) 42 rfl rfl (fun hb => ?_) (fun hb => ?_)
        · skip
          have b8 := hb
          replace h := h.1 hb
          refine s_iload_n (q := 86) 45 1 rfl rfl ?_
          refine s_iload_n (q := 87) 46 0 rfl rfl ?_
          refine s_if_eq (q := 90) (tgt := 98) 47 rfl rfl (fun _ => ?_) (fun hb => absurd (by decide) hb)
          refine s_iconst (q := 99) 52 rfl ?_
          refine PW.pick [2, 1] rfl ?_
          exact n_callV (N := mX12_leaf) (as := [(0, 1), (0, s0), (0, 0)]) (st := []) (q := 102) (d' := 3) 53 rfl uX12_leaf kX12_341 rfl c1 h
        · have hb := Classical.not_not.mp hb
          have b8 := hb
          replace h := h.2 hb
          refine s_iconst (q := 82) 43 rfl ?_
          refine s_goto (tgt := 86) 44 rfl rfl ?_
          refine s_iload_n (q := 87) 46 0 rfl rfl ?_
          refine s_if_eq (q := 90) (tgt := 98) 47 rfl rfl (fun _ => ?_) (fun hb => absurd (by decide) hb)
          refine s_iconst (q := 99) 52 rfl ?_
          refine PW.pick [2, 1] rfl ?_
          exact n_callV (N := mX12_leaf) (as := [(0, 1), (0, 0), (0, 0)]) (st := []) (q := 102) (d' := 3) 53 rfl uX12_leaf kX12_341 rfl c1 h
      · have hb := Classical.not_not.mp hb
        have b7 := hb
        replace h := h.2 hb
        refine s_iload_n (q := 68) 35 0 rfl rfl ?_
        refine s_if_eq (q := 71) (tgt := 75) 36 rfl rfl (fun _ => ?_) (fun hb => absurd (by decide) hb)
        refine s_iconst (q := 76) 39 rfl ?_
        refine s_iload_n (q := 77) 40 1 rfl rfl ?_
        refine s_iconst (q := 78) 41 rfl ?_
        refine s_icmp_ne (q := 81) (tgt := 85) 42 rfl rfl (fun hb => ?_) (fun hb => ?_)
        · skip
          have b9 := hb
          replace h := h.1 hb
          refine s_iload_n (q := 86) 45 1 rfl rfl ?_
          refine s_iload_n (q := 87) 46 0 rfl rfl ?_
          refine s_if_eq (q := 90) (tgt := 98) 47 rfl rfl (fun _ => ?_) (fun hb => absurd (by decide) hb)
          refine s_iconst (q := 99) 52 rfl ?_
          refine PW.pick [2, 1] rfl ?_
          exact n_callV (N := mX12_leaf) (as := [(0, 0), (0, s0), (0, 0)]) (st := []) (q := 102) (d' := 3) 53 rfl uX12_leaf kX12_341 rfl c1 h
        · have hb := Classical.not_not.mp hb
          have b9 := hb
          replace h := h.2 hb
          refine s_iconst (q := 82) 43 rfl ?_
          refine s_goto (tgt := 86) 44 rfl rfl ?_
          refine s_iload_n (q := 87) 46 0 rfl rfl ?_
          refine s_if_eq (q := 90) (tgt := 98) 47 rfl rfl (fun _ => ?_) (fun hb => absurd (by decide) hb)
          refine s_iconst (q := 99) 52 rfl ?_
          refine PW.pick [2, 1] rfl ?_
          exact n_callV (N := mX12_leaf) (as := [(0, 0), (0, 0), (0, 0)]) (st := []) (q := 102) (d' := 3) 53 rfl uX12_leaf kX12_341 rfl c1 h
    · have hb := mt lCmp_gt.mpr hb
      have b6 := hb
      replace h := h.2 hb
      refine s_iconst (q := 56) 27 rfl ?_
      refine s_goto (tgt := 60) 28 rfl rfl ?_
      refine s_istore_n (q := 61) (lv' := [(2, (0, 1)), (1, (0, s0)), (0, (2, x0))]) 30 rfl rfl ?_
      refine s_aload_n (q := 62) 31 2 rfl rfl ?_
      refine s_iload_n (q := 63) 32 1 rfl rfl ?_
      refine s_iconst (q := 64) 33 rfl ?_
      refine s_icmp_ne (q := 67) (tgt := 71) 34 rfl rfl (fun hb => ?_) (fun hb => ?_)
      · skip
        have b10 := hb
        replace h := h.1 hb
        refine s_iconst (q := 72) 37 rfl ?_
        refine s_goto (tgt := 76) 38 rfl rfl ?_
        refine s_iload_n (q := 77) 40 1 rfl rfl ?_
        refine s_iconst (q := 78) 41 rfl ?_
        refine s_icmp_ne (q := 81) (tgt := 85) 42 rfl rfl (fun hb => ?_) (fun hb => ?_)
        · skip
          have b11 := hb
          replace h := h.1 hb
          refine s_iload_n (q := 86) 45 1 rfl rfl ?_
          refine s_iload_n (q := 87) 46 0 rfl rfl ?_
          refine s_if_eq (q := 90) (tgt := 98) 47 rfl rfl (fun hb => absurd hb (by decide)) (fun _ => ?_)
          refine s_aload_n (q := 91) 48 2 rfl rfl ?_
          refine n_getf (q := 94) (jj := 17) 49 12 17 rfl kX12_262 c1 ?_
          obtain ⟨c12, h⟩ := h
          refine n_l2i (q := 95) 50 rfl c12 ?_
          refine s_goto (tgt := 99) 51 rfl rfl ?_
          refine PW.pick [2, 1] rfl ?_
          exact n_callV (N := mX12_leaf) (as := [(0, 1), (0, s0), (0, F x0 17)]) (st := []) (q := 102) (d' := 3) 53 rfl uX12_leaf kX12_341 rfl c1 h
        · have hb := Classical.not_not.mp hb
          have b11 := hb
          replace h := h.2 hb
          refine s_iconst (q := 82) 43 rfl ?_
          refine s_goto (tgt := 86) 44 rfl rfl ?_
          refine s_iload_n (q := 87) 46 0 rfl rfl ?_
          refine s_if_eq (q := 90) (tgt := 98) 47 rfl rfl (fun hb => absurd hb (by decide)) (fun _ => ?_)
          refine s_aload_n (q := 91) 48 2 rfl rfl ?_
          refine n_getf (q := 94) (jj := 17) 49 12 17 rfl kX12_262 c1 ?_
          obtain ⟨c13, h⟩ := h
          refine n_l2i (q := 95) 50 rfl c13 ?_
          refine s_goto (tgt := 99) 51 rfl rfl ?_
          refine PW.pick [2, 1] rfl ?_
          exact n_callV (N := mX12_leaf) (as := [(0, 1), (0, 0), (0, F x0 17)]) (st := []) (q := 102) (d' := 3) 53 rfl uX12_leaf kX12_341 rfl c1 h
      · have hb := Classical.not_not.mp hb
        have b10 := hb
        replace h := h.2 hb
        refine s_iload_n (q := 68) 35 0 rfl rfl ?_
        refine s_if_eq (q := 71) (tgt := 75) 36 rfl rfl (fun hb => absurd hb (by decide)) (fun _ => ?_)
        refine s_iconst (q := 72) 37 rfl ?_
        refine s_goto (tgt := 76) 38 rfl rfl ?_
        refine s_iload_n (q := 77) 40 1 rfl rfl ?_
        refine s_iconst (q := 78) 41 rfl ?_
        refine s_icmp_ne (q := 81) (tgt := 85) 42 rfl rfl (fun hb => ?_) (fun hb => ?_)
        · skip
          have b14 := hb
          replace h := h.1 hb
          refine s_iload_n (q := 86) 45 1 rfl rfl ?_
          refine s_iload_n (q := 87) 46 0 rfl rfl ?_
          refine s_if_eq (q := 90) (tgt := 98) 47 rfl rfl (fun hb => absurd hb (by decide)) (fun _ => ?_)
          refine s_aload_n (q := 91) 48 2 rfl rfl ?_
          refine n_getf (q := 94) (jj := 17) 49 12 17 rfl kX12_262 c1 ?_
          obtain ⟨c15, h⟩ := h
          refine n_l2i (q := 95) 50 rfl c15 ?_
          refine s_goto (tgt := 99) 51 rfl rfl ?_
          refine PW.pick [2, 1] rfl ?_
          exact n_callV (N := mX12_leaf) (as := [(0, 1), (0, s0), (0, F x0 17)]) (st := []) (q := 102) (d' := 3) 53 rfl uX12_leaf kX12_341 rfl c1 h
        · have hb := Classical.not_not.mp hb
          have b14 := hb
          replace h := h.2 hb
          refine s_iconst (q := 82) 43 rfl ?_
          refine s_goto (tgt := 86) 44 rfl rfl ?_
          refine s_iload_n (q := 87) 46 0 rfl rfl ?_
          refine s_if_eq (q := 90) (tgt := 98) 47 rfl rfl (fun hb => absurd hb (by decide)) (fun _ => ?_)
          refine s_aload_n (q := 91) 48 2 rfl rfl ?_
          refine n_getf (q := 94) (jj := 17) 49 12 17 rfl kX12_262 c1 ?_
          obtain ⟨c16, h⟩ := h
          refine n_l2i (q := 95) 50 rfl c16 ?_
          refine s_goto (tgt := 99) 51 rfl rfl ?_
          refine PW.pick [2, 1] rfl ?_
          exact n_callV (N := mX12_leaf) (as := [(0, 1), (0, 0), (0, F x0 17)]) (st := []) (q := 102) (d' := 3) 53 rfl uX12_leaf kX12_341 rfl c1 h
theorem vX12_readPart_35 {l : Launch} {G : pG} {bg : Nat × Nat} {n : Nat} {K : Int → Nat × Nat} {F E : Int → Int → Int} {Q : Option pV → pM → Prop} (x0 s0 : Int) (h : (K x0).1 = 12 ∧ ((¬ (F x0 16) = 2 → ((¬ s0 = (-1) → ((¬ s0 = (-1) → PC l G 3 mX12_leaf (0, 0) [(2, x0), (0, 1), (0, s0), (0, 0)] (n, K, F, E) (fun r μ => PW l G 4 mX12_readPart bg 102 [(0, (2, x0)), (1, (0, s0))] (r.toList ++ []) μ Q)) ∧ (s0 = (-1) → PC l G 3 mX12_leaf (0, 0) [(2, x0), (0, 1), (0, 0), (0, 0)] (n, K, F, E) (fun r μ => PW l G 4 mX12_readPart bg 102 [(0, (2, x0)), (1, (0, s0))] (r.toList ++ []) μ Q)))) ∧ (s0 = (-1) → ((¬ s0 = (-1) → PC l G 3 mX12_leaf (0, 0) [(2, x0), (0, 0), (0, s0), (0, 0)] (n, K, F, E) (fun r μ => PW l G 4 mX12_readPart bg 102 [(0, (2, x0)), (1, (0, s0))] (r.toList ++ []) μ Q)) ∧ (s0 = (-1) → PC l G 3 mX12_leaf (0, 0) [(2, x0), (0, 0), (0, 0), (0, 0)] (n, K, F, E) (fun r μ => PW l G 4 mX12_readPart bg 102 [(0, (2, x0)), (1, (0, s0))] (r.toList ++ []) μ Q)))))) ∧ ((F x0 16) = 2 → ((1000 < F x0 17 → ((¬ s0 = (-1) → ((¬ s0 = (-1) → PC l G 3 mX12_leaf (0, 0) [(2, x0), (0, 1), (0, s0), (0, 0)] (n, K, F, E) (fun r μ => PW l G 4 mX12_readPart bg 102 [(0, (2, x0)), (1, (0, s0))] (r.toList ++ []) μ Q)) ∧ (s0 = (-1) → PC l G 3 mX12_leaf (0, 0) [(2, x0), (0, 1), (0, 0), (0, 0)] (n, K, F, E) (fun r μ => PW l G 4 mX12_readPart bg 102 [(0, (2, x0)), (1, (0, s0))] (r.toList ++ []) μ Q)))) ∧ (s0 = (-1) → ((¬ s0 = (-1) → PC l G 3 mX12_leaf (0, 0) [(2, x0), (0, 0), (0, s0), (0, 0)] (n, K, F, E) (fun r μ => PW l G 4 mX12_readPart bg 102 [(0, (2, x0)), (1, (0, s0))] (r.toList ++ []) μ Q)) ∧ (s0 = (-1) → PC l G 3 mX12_leaf (0, 0) [(2, x0), (0, 0), (0, 0), (0, 0)] (n, K, F, E) (fun r μ => PW l G 4 mX12_readPart bg 102 [(0, (2, x0)), (1, (0, s0))] (r.toList ++ []) μ Q)))))) ∧ (¬ (1000 < F x0 17) → ((¬ s0 = (-1) → ((¬ s0 = (-1) → (-2147483648 ≤ F x0 17 ∧ F x0 17 < 2147483648) ∧ PC l G 3 mX12_leaf (0, 0) [(2, x0), (0, 1), (0, s0), (0, F x0 17)] (n, K, F, E) (fun r μ => PW l G 4 mX12_readPart bg 102 [(0, (2, x0)), (1, (0, s0))] (r.toList ++ []) μ Q)) ∧ (s0 = (-1) → (-2147483648 ≤ F x0 17 ∧ F x0 17 < 2147483648) ∧ PC l G 3 mX12_leaf (0, 0) [(2, x0), (0, 1), (0, 0), (0, F x0 17)] (n, K, F, E) (fun r μ => PW l G 4 mX12_readPart bg 102 [(0, (2, x0)), (1, (0, s0))] (r.toList ++ []) μ Q)))) ∧ (s0 = (-1) → ((¬ s0 = (-1) → (-2147483648 ≤ F x0 17 ∧ F x0 17 < 2147483648) ∧ PC l G 3 mX12_leaf (0, 0) [(2, x0), (0, 1), (0, s0), (0, F x0 17)] (n, K, F, E) (fun r μ => PW l G 4 mX12_readPart bg 102 [(0, (2, x0)), (1, (0, s0))] (r.toList ++ []) μ Q)) ∧ (s0 = (-1) → (-2147483648 ≤ F x0 17 ∧ F x0 17 < 2147483648) ∧ PC l G 3 mX12_leaf (0, 0) [(2, x0), (0, 1), (0, 0), (0, F x0 17)] (n, K, F, E) (fun r μ => PW l G 4 mX12_readPart bg 102 [(0, (2, x0)), (1, (0, s0))] (r.toList ++ []) μ Q)))))))))) : PW l G 4 mX12_readPart bg 35 [(0, (2, x0))] [(0, s0)] (n, K, F, E) Q := by
  refine s_istore_n (q := 36) (lv' := [(1, (0, s0)), (0, (2, x0))]) 17 rfl rfl ?_
  refine s_aload_n (q := 37) 18 1 rfl rfl ?_
  obtain ⟨c1, h⟩ := h
  refine n_getf (q := 40) (jj := 16) 19 12 16 rfl kX12_272 c1 ?_
  refine s_iconst (q := 41) 20 rfl ?_
  refine s_icmp_ne (q := 44) (tgt := 59) 21 rfl rfl (fun hb => ?_) (fun hb => ?_)
  · skip
    have b2 := hb
    replace h := h.1 hb
    refine s_iconst (q := 60) 29 rfl ?_
    refine s_istore_n (q := 61) (lv' := [(2, (0, 0)), (1, (0, s0)), (0, (2, x0))]) 30 rfl rfl ?_
    refine s_aload_n (q := 62) 31 2 rfl rfl ?_
    refine s_iload_n (q := 63) 32 1 rfl rfl ?_
    refine s_iconst (q := 64) 33 rfl ?_
    refine s_icmp_ne (q := 67) (tgt := 71) 34 rfl rfl (fun hb => ?_) (fun hb => ?_)
    · skip
      have b3 := hb
      replace h := h.1 hb
      refine s_iconst (q := 72) 37 rfl ?_
      refine s_goto (tgt := 76) 38 rfl rfl ?_
      refine s_iload_n (q := 77) 40 1 rfl rfl ?_
      refine s_iconst (q := 78) 41 rfl ?_
      refine s_icmp_ne (q := 81) (tgt := 85) 42 rfl rfl (fun hb => ?_) (fun hb => ?_)
      · skip
        have b4 := hb
        replace h := h.1 hb
        refine s_iload_n (q := 86) 45 1 rfl rfl ?_
        refine s_iload_n (q := 87) 46 0 rfl rfl ?_
        refine s_if_eq (q := 90) (tgt := 98) 47 rfl rfl (fun _ => ?_) (fun hb => absurd (by decide) hb)
        refine s_iconst (q := 99) 52 rfl ?_
        refine PW.pick [2, 1] rfl ?_
        exact n_callV (N := mX12_leaf) (as := [(0, 1), (0, s0), (0, 0)]) (st := []) (q := 102) (d' := 3) 53 rfl uX12_leaf kX12_341 rfl c1 h
      · have hb := Classical.not_not.mp hb
        have b4 := hb
        replace h := h.2 hb
        refine s_iconst (q := 82) 43 rfl ?_
        refine s_goto (tgt := 86) 44 rfl rfl ?_
        refine s_iload_n (q := 87) 46 0 rfl rfl ?_
        refine s_if_eq (q := 90) (tgt := 98) 47 rfl rfl (fun _ => ?_) (fun hb => absurd (by decide) hb)
        refine s_iconst (q := 99) 52 rfl ?_
        refine PW.pick [2, 1] rfl ?_
        exact n_callV (N := mX12_leaf) (as := [(0, 1), (0, 0), (0, 0)]) (st := []) (q := 102) (d' := 3) 53 rfl uX12_leaf kX12_341 rfl c1 h
    · have hb := Classical.not_not.mp hb
      have b3 := hb
      replace h := h.2 hb
      refine s_iload_n (q := 68) 35 0 rfl rfl ?_
      refine s_if_eq (q := 71) (tgt := 75) 36 rfl rfl (fun _ => ?_) (fun hb => absurd (by decide) hb)
      refine s_iconst (q := 76) 39 rfl ?_
      refine s_iload_n (q := 77) 40 1 rfl rfl ?_
      refine s_iconst (q := 78) 41 rfl ?_
      refine s_icmp_ne (q := 81) (tgt := 85) 42 rfl rfl (fun hb => ?_) (fun hb => ?_)
      · skip
        have b5 := hb
        replace h := h.1 hb
        refine s_iload_n (q := 86) 45 1 rfl rfl ?_
        refine s_iload_n (q := 87) 46 0 rfl rfl ?_
        refine s_if_eq (q := 90) (tgt := 98) 47 rfl rfl (fun _ => ?_) (fun hb => absurd (by decide) hb)
        refine s_iconst (q := 99) 52 rfl ?_
        refine PW.pick [2, 1] rfl ?_
        exact n_callV (N := mX12_leaf) (as := [(0, 0), (0, s0), (0, 0)]) (st := []) (q := 102) (d' := 3) 53 rfl uX12_leaf kX12_341 rfl c1 h
      · have hb := Classical.not_not.mp hb
        have b5 := hb
        replace h := h.2 hb
        refine s_iconst (q := 82) 43 rfl ?_
        refine s_goto (tgt := 86) 44 rfl rfl ?_
        refine s_iload_n (q := 87) 46 0 rfl rfl ?_
        refine s_if_eq (q := 90) (tgt := 98) 47 rfl rfl (fun _ => ?_) (fun hb => absurd (by decide) hb)
        refine s_iconst (q := 99) 52 rfl ?_
        refine PW.pick [2, 1] rfl ?_
        exact n_callV (N := mX12_leaf) (as := [(0, 0), (0, 0), (0, 0)]) (st := []) (q := 102) (d' := 3) 53 rfl uX12_leaf kX12_341 rfl c1 h
  · have hb := Classical.not_not.mp hb
    have b2 := hb
    replace h := h.2 hb
    refine s_aload_n (q := 45) 22 1 rfl rfl ?_
    refine n_getf (q := 48) (jj := 17) 23 12 17 rfl kX12_262 c1 ?_
    refine s_ldc2 (q := 51) (x := 1000) 24 rfl kX12_339 ?_
    refine s_lcmp (q := 52) 25 rfl ?_
    refine s_if_gt (q := 55) (tgt := 59) 26 rfl rfl (fun hb => ?_) (fun hb => ?_)
    · have hb := lCmp_gt.mp hb
      have b6 := hb
      replace h := h.1 hb
      refine s_iconst (q := 60) 29 rfl ?_
      refine s_istore_n (q := 61) (lv' := [(2, (0, 0)), (1, (0, s0)), (0, (2, x0))]) 30 rfl rfl ?_
      refine s_aload_n (q := 62) 31 2 rfl rfl ?_
      refine s_iload_n (q := 63) 32 1 rfl rfl ?_
      refine s_iconst (q := 64) 33 rfl ?_
      refine s_icmp_ne (q := 67) (tgt := 71) 34 rfl rfl (fun hb => ?_) (fun hb => ?_)
      · skip
        have b7 := hb
        replace h := h.1 hb
        refine s_iconst (q := 72) 37 rfl ?_
        refine s_goto (tgt := 76) 38 rfl rfl ?_
        refine s_iload_n (q := 77) 40 1 rfl rfl ?_
        refine s_iconst (q := 78) 41 rfl ?_
        refine s_icmp_ne (q := 81) (tgt := 85) 42 rfl rfl (fun hb => ?_) (fun hb => ?_)
        · skip
          have b8 := hb
          replace h := h.1 hb
          refine s_iload_n (q := 86) 45 1 rfl rfl ?_
          refine s_iload_n (q := 87) 46 0 rfl rfl ?_
          refine s_if_eq (q := 90) (tgt := 98) 47 rfl rfl (fun _ => ?_) (fun hb => absurd (by decide) hb)
          refine s_iconst (q := 99) 52 rfl ?_
          refine PW.pick [2, 1] rfl ?_
          exact n_callV (N := mX12_leaf) (as := [(0, 1), (0, s0), (0, 0)]) (st := []) (q := 102) (d' := 3) 53 rfl uX12_leaf kX12_341 rfl c1 h
        · have hb := Classical.not_not.mp hb
          have b8 := hb
          replace h := h.2 hb
          refine s_iconst (q := 82) 43 rfl ?_
          refine s_goto (tgt := 86) 44 rfl rfl ?_
          refine s_iload_n (q := 87) 46 0 rfl rfl ?_
          refine s_if_eq (q := 90) (tgt := 98) 47 rfl rfl (fun _ => ?_) (fun hb => absurd (by decide) hb)
          refine s_iconst (q := 99) 52 rfl ?_
          refine PW.pick [2, 1] rfl ?_
          exact n_callV (N := mX12_leaf) (as := [(0, 1), (0, 0), (0, 0)]) (st := []) (q := 102) (d' := 3) 53 rfl uX12_leaf kX12_341 rfl c1 h
      · have hb := Classical.not_not.mp hb
        have b7 := hb
        replace h := h.2 hb
        refine s_iload_n (q := 68) 35 0 rfl rfl ?_
        refine s_if_eq (q := 71) (tgt := 75) 36 rfl rfl (fun _ => ?_) (fun hb => absurd (by decide) hb)
        refine s_iconst (q := 76) 39 rfl ?_
        refine s_iload_n (q := 77) 40 1 rfl rfl ?_
        refine s_iconst (q := 78) 41 rfl ?_
        refine s_icmp_ne (q := 81) (tgt := 85) 42 rfl rfl (fun hb => ?_) (fun hb => ?_)
        · skip
          have b9 := hb
          replace h := h.1 hb
          refine s_iload_n (q := 86) 45 1 rfl rfl ?_
          refine s_iload_n (q := 87) 46 0 rfl rfl ?_
          refine s_if_eq (q := 90) (tgt := 98) 47 rfl rfl (fun _ => ?_) (fun hb => absurd (by decide) hb)
          refine s_iconst (q := 99) 52 rfl ?_
          refine PW.pick [2, 1] rfl ?_
          exact n_callV (N := mX12_leaf) (as := [(0, 0), (0, s0), (0, 0)]) (st := []) (q := 102) (d' := 3) 53 rfl uX12_leaf kX12_341 rfl c1 h
        · have hb := Classical.not_not.mp hb
          have b9 := hb
          replace h := h.2 hb
          refine s_iconst (q := 82) 43 rfl ?_
          refine s_goto (tgt := 86) 44 rfl rfl ?_
          refine s_iload_n (q := 87) 46 0 rfl rfl ?_
          refine s_if_eq (q := 90) (tgt := 98) 47 rfl rfl (fun _ => ?_) (fun hb => absurd (by decide) hb)
          refine s_iconst (q := 99) 52 rfl ?_
          refine PW.pick [2, 1] rfl ?_
          exact n_callV (N := mX12_leaf) (as := [(0, 0), (0, 0), (0, 0)]) (st := []) (q := 102) (d' := 3) 53 rfl uX12_leaf kX12_341 rfl c1 h
    · have hb := mt lCmp_gt.mpr hb
      have b6 := hb
      replace h := h.2 hb
      refine s_iconst (q := 56) 27 rfl ?_
      refine s_goto (tgt := 60) 28 rfl rfl ?_
      refine s_istore_n (q := 61) (lv' := [(2, (0, 1)), (1, (0, s0)), (0, (2, x0))]) 30 rfl rfl ?_
      refine s_aload_n (q := 62) 31 2 rfl rfl ?_
      refine s_iload_n (q := 63) 32 1 rfl rfl ?_
      refine s_iconst (q := 64) 33 rfl ?_
      refine s_icmp_ne (q := 67) (tgt := 71) 34 rfl rfl (fun hb => ?_) (fun hb => ?_)
      · skip
        have b10 := hb
        replace h := h.1 hb
        refine s_iconst (q := 72) 37 rfl ?_
        refine s_goto (tgt := 76) 38 rfl rfl ?_
        refine s_iload_n (q := 77) 40 1 rfl rfl ?_
        refine s_iconst (q := 78) 41 rfl ?_
        refine s_icmp_ne (q := 81) (tgt := 85) 42 rfl rfl (fun hb => ?_) (fun hb => ?_)
        · skip
          have b11 := hb
          replace h := h.1 hb
          refine s_iload_n (q := 86) 45 1 rfl rfl ?_
          refine s_iload_n (q := 87) 46 0 rfl rfl ?_
          refine s_if_eq (q := 90) (tgt := 98) 47 rfl rfl (fun hb => absurd hb (by decide)) (fun _ => ?_)
          refine s_aload_n (q := 91) 48 2 rfl rfl ?_
          refine n_getf (q := 94) (jj := 17) 49 12 17 rfl kX12_262 c1 ?_
          obtain ⟨c12, h⟩ := h
          refine n_l2i (q := 95) 50 rfl c12 ?_
          refine s_goto (tgt := 99) 51 rfl rfl ?_
          refine PW.pick [2, 1] rfl ?_
          exact n_callV (N := mX12_leaf) (as := [(0, 1), (0, s0), (0, F x0 17)]) (st := []) (q := 102) (d' := 3) 53 rfl uX12_leaf kX12_341 rfl c1 h
        · have hb := Classical.not_not.mp hb
          have b11 := hb
          replace h := h.2 hb
          refine s_iconst (q := 82) 43 rfl ?_
          refine s_goto (tgt := 86) 44 rfl rfl ?_
          refine s_iload_n (q := 87) 46 0 rfl rfl ?_
          refine s_if_eq (q := 90) (tgt := 98) 47 rfl rfl (fun hb => absurd hb (by decide)) (fun _ => ?_)
          refine s_aload_n (q := 91) 48 2 rfl rfl ?_
          refine n_getf (q := 94) (jj := 17) 49 12 17 rfl kX12_262 c1 ?_
          obtain ⟨c13, h⟩ := h
          refine n_l2i (q := 95) 50 rfl c13 ?_
          refine s_goto (tgt := 99) 51 rfl rfl ?_
          refine PW.pick [2, 1] rfl ?_
          exact n_callV (N := mX12_leaf) (as := [(0, 1), (0, 0), (0, F x0 17)]) (st := []) (q := 102) (d' := 3) 53 rfl uX12_leaf kX12_341 rfl c1 h
      · have hb := Classical.not_not.mp hb
        have b10 := hb
        replace h := h.2 hb
        refine s_iload_n (q := 68) 35 0 rfl rfl ?_
        refine s_if_eq (q := 71) (tgt := 75) 36 rfl rfl (fun hb => absurd hb (by decide)) (fun _ => ?_)
        refine s_iconst (q := 72) 37 rfl ?_
        refine s_goto (tgt := 76) 38 rfl rfl ?_
        refine s_iload_n (q := 77) 40 1 rfl rfl ?_
        refine s_iconst (q := 78) 41 rfl ?_
        refine s_icmp_ne (q := 81) (tgt := 85) 42 rfl rfl (fun hb => ?_) (fun hb => ?_)
        · skip
          have b14 := hb
          replace h := h.1 hb
          refine s_iload_n (q := 86) 45 1 rfl rfl ?_
          refine s_iload_n (q := 87) 46 0 rfl rfl ?_
          refine s_if_eq (q := 90) (tgt := 98) 47 rfl rfl (fun hb => absurd hb (by decide)) (fun _ => ?_)
          refine s_aload_n (q := 91) 48 2 rfl rfl ?_
          refine n_getf (q := 94) (jj := 17) 49 12 17 rfl kX12_262 c1 ?_
          obtain ⟨c15, h⟩ := h
          refine n_l2i (q := 95) 50 rfl c15 ?_
          refine s_goto (tgt := 99) 51 rfl rfl ?_
          refine PW.pick [2, 1] rfl ?_
          exact n_callV (N := mX12_leaf) (as := [(0, 1), (0, s0), (0, F x0 17)]) (st := []) (q := 102) (d' := 3) 53 rfl uX12_leaf kX12_341 rfl c1 h
        · have hb := Classical.not_not.mp hb
          have b14 := hb
          replace h := h.2 hb
          refine s_iconst (q := 82) 43 rfl ?_
          refine s_goto (tgt := 86) 44 rfl rfl ?_
          refine s_iload_n (q := 87) 46 0 rfl rfl ?_
          refine s_if_eq (q := 90) (tgt := 98) 47 rfl rfl (fun hb => absurd hb (by decide)) (fun _ => ?_)
          refine s_aload_n (q := 91) 48 2 rfl rfl ?_
          refine n_getf (q := 94) (jj := 17) 49 12 17 rfl kX12_262 c1 ?_
          obtain ⟨c16, h⟩ := h
          refine n_l2i (q := 95) 50 rfl c16 ?_
          refine s_goto (tgt := 99) 51 rfl rfl ?_
          refine PW.pick [2, 1] rfl ?_
          exact n_callV (N := mX12_leaf) (as := [(0, 1), (0, 0), (0, F x0 17)]) (st := []) (q := 102) (d' := 3) 53 rfl uX12_leaf kX12_341 rfl c1 h
theorem vX12_readPart_102 {l : Launch} {G : pG} {bg : Nat × Nat} {n : Nat} {K : Int → Nat × Nat} {F E : Int → Int → Int} {Q : Option pV → pM → Prop} (x0 x1 : Int) (h : (K x0).1 = 12 ∧ ((F x0 20 = 0 → Q (some (0, 3)) (n, K, F, E)) ∧ (¬ (F x0 20 = 0) → ((x1 < 6 → Q (some (0, 3)) (n, K, F, E)) ∧ (¬ (x1 < 6) → ((¬ (F x0 19) = 0 → Q (some (0, 3)) (n, K, F, E)) ∧ ((F x0 19) = 0 → (-2147483648 ≤ (F x0 23) - 1 ∧ (F x0 23) - 1 < 2147483648) ∧ ((¬ x1 = 6 → PC l G 3 mX12_number (0, 0) [(2, x0), (1, 0), (1, 3)] (n, K, F, E) (fun r μ => PW l G 4 mX12_readPart bg 154 [] (r.toList ++ [(0, (F x0 23) - 1), (2, F x0 25)]) μ Q)) ∧ (x1 = 6 → PC l G 3 mX12_number (0, 0) [(2, x0), (1, 0), (1, 2)] (n, K, F, E) (fun r μ => PW l G 4 mX12_readPart bg 154 [] (r.toList ++ [(0, (F x0 23) - 1), (2, F x0 25)]) μ Q)))))))))) : PW l G 4 mX12_readPart bg 102 [(0, (2, x0)), (1, (0, x1))] [] (n, K, F, E) Q := by
  refine s_aload_n (q := 103) 54 0 rfl rfl ?_
  obtain ⟨c1, h⟩ := h
  refine n_getf (q := 106) (jj := 20) 55 12 20 rfl kX12_329 c1 ?_
  refine s_if_eq (q := 109) (tgt := 155) 56 rfl rfl (fun hb => ?_) (fun hb => ?_)
  · skip
    have b2 := hb
    replace h := h.1 hb
    refine s_iconst (q := 156) 81 rfl ?_
    exact s_iret 82 rfl rfl h
  · skip
    have b2 := hb
    replace h := h.2 hb
    refine s_iload_n (q := 110) 57 1 rfl rfl ?_
    refine s_bipush (q := 112) 58 rfl ?_
    refine s_icmp_lt (q := 115) (tgt := 155) 59 rfl rfl (fun hb => ?_) (fun hb => ?_)
    · skip
      have b3 := hb
      replace h := h.1 hb
      refine s_iconst (q := 156) 81 rfl ?_
      exact s_iret 82 rfl rfl h
    · skip
      have b3 := hb
      replace h := h.2 hb
      refine s_aload_n (q := 116) 60 0 rfl rfl ?_
      refine n_getf (q := 119) (jj := 19) 61 12 19 rfl kX12_252 c1 ?_
      refine s_if_ne (q := 122) (tgt := 155) 62 rfl rfl (fun hb => ?_) (fun hb => ?_)
      · skip
        have b4 := hb
        replace h := h.1 hb
        refine s_iconst (q := 156) 81 rfl ?_
        exact s_iret 82 rfl rfl h
      · have hb := Classical.not_not.mp hb
        have b4 := hb
        replace h := h.2 hb
        refine s_aload_n (q := 123) 63 0 rfl rfl ?_
        refine n_getf (q := 126) (jj := 23) 64 12 23 rfl kX12_289 c1 ?_
        refine s_iconst (q := 127) 65 rfl ?_
        obtain ⟨c5, h⟩ := h
        refine n_isub (q := 128) 66 rfl c5 ?_
        refine s_istore_n (q := 129) (lv' := [(3, (0, (F x0 23) - 1)), (0, (2, x0)), (1, (0, x1))]) 67 rfl rfl ?_
        refine s_aload_n (q := 130) 68 1 rfl rfl ?_
        refine n_getf (q := 133) (jj := 25) 69 12 25 rfl kX12_48 c1 ?_
        refine s_iload_n (q := 134) 70 0 rfl rfl ?_
        refine s_aload_n (q := 135) 71 1 rfl rfl ?_
        refine s_lconst (q := 136) (x := 0) 72 rfl ?_
        refine s_iload_n (q := 137) 73 2 rfl rfl ?_
        refine s_bipush (q := 139) 74 rfl ?_
        refine s_icmp_ne (q := 142) (tgt := 148) 75 rfl rfl (fun hb => ?_) (fun hb => ?_)
        · skip
          have b6 := hb
          replace h := h.1 hb
          refine s_ldc2 (q := 151) (x := 3) 78 rfl kX12_345 ?_
          refine PW.pick [] rfl ?_
          exact n_callV (N := mX12_number) (as := [(1, 0), (1, 3)]) (st := [(0, (F x0 23) - 1), (2, F x0 25)]) (q := 154) (d' := 3) 79 rfl uX12_number kX12_347 rfl c1 h
        · have hb := Classical.not_not.mp hb
          have b6 := hb
          replace h := h.2 hb
          refine s_ldc2 (q := 145) (x := 2) 76 rfl kX12_61 ?_
          refine s_goto (tgt := 151) 77 rfl rfl ?_
          refine PW.pick [] rfl ?_
          exact n_callV (N := mX12_number) (as := [(1, 0), (1, 2)]) (st := [(0, (F x0 23) - 1), (2, F x0 25)]) (q := 154) (d' := 3) 79 rfl uX12_number kX12_347 rfl c1 h
theorem vX12_readPart_154 {l : Launch} {G : pG} {bg : Nat × Nat} {n : Nat} {K : Int → Nat × Nat} {F E : Int → Int → Int} {Q : Option pV → pM → Prop} (s0 s1 s2 : Int) (h : (0 : Int) ≤ s2 ∧ (K s2).1 = 20 ∧ ((0 : Int) ≤ s1 ∧ s1 < ((K s2).2 : Int)) ∧ (∀ E1, E1 = pUp E s2 s1 s0 → Q (some (0, 3)) (n, K, F, E1))) : PW l G 4 mX12_readPart bg 154 [] [(0, s0), (0, s1), (2, s2)] (n, K, F, E) Q := by
  obtain ⟨c1, h⟩ := h
  obtain ⟨c2, h⟩ := h
  obtain ⟨c3, h⟩ := h
  refine n_iast (q := 155) 80 rfl c1 c2 c3 ?_
  refine PW.nameE (fun E1 eE1 => ?_)
  replace h := h E1 eE1
  refine s_iconst (q := 156) 81 rfl ?_
  exact s_iret 82 rfl rfl h
theorem vX12_readPlain_0 {l : Launch} {G : pG} {bg : Nat × Nat} {n : Nat} {K : Int → Nat × Nat} {F E : Int → Int → Int} {Q : Option pV → pM → Prop} (x0 : Int) (h : (K x0).1 = 12 ∧ ((¬ (F x0 16 = 1 ∧ F x0 17 = 14836) → ((¬ (F x0 16 = 3 ∧ F x0 17 = 40) → PC l G 4 mX12_readPart (0, 0) [(2, x0)] (n, K, F, E) (fun r μ => PW l G 5 mX12_readPlain bg 44 [] (r.toList ++ []) μ Q)) ∧ (F x0 16 = 3 ∧ F x0 17 = 40 → PC l G 3 mX12_openBracket (0, 0) [(2, x0), (0, 31)] (n, K, F, E) (fun r μ => PW l G 5 mX12_readPlain bg 38 [] (r.toList ++ []) μ Q)))) ∧ (F x0 16 = 1 ∧ F x0 17 = 14836 → (0 : Int) ≤ F x0 27 ∧ (K (F x0 27)).1 = 20 ∧ ((0 : Int) ≤ F x0 29 ∧ F x0 29 < ((K (F x0 27)).2 : Int)) ∧ (∀ E1, E1 = pUp E (F x0 27) (F x0 29) 28 → (0 : Int) ≤ F x0 28 ∧ (K (F x0 28)).1 = 20 ∧ ((0 : Int) ≤ F x0 29 ∧ F x0 29 < ((K (F x0 28)).2 : Int)) ∧ (∀ E2, E2 = pUp E1 (F x0 28) (F x0 29) 0 → (-2147483648 ≤ (F x0 29) + 1 ∧ (F x0 29) + 1 < 2147483648) ∧ (∀ F3, F3 = pUp F x0 29 ((F x0 29) + 1) → PC l G 1 mX12_next (0, 0) [(2, x0)] (n, K, F3, E2) (fun r μ => PW l G 5 mX12_readPlain bg 21 [] (r.toList ++ []) μ Q))))))) : PW l G 5 mX12_readPlain bg 0 [(0, (2, x0))] [] (n, K, F, E) Q := by
  refine s_aload_n (q := 1) 0 0 rfl rfl ?_
  refine s_ldc2 (q := 4) (x := 14836) 1 rfl kX12_351 ?_
  obtain ⟨c1, h⟩ := h
  refine n_callV (N := mX12_isWord) (as := [(1, 14836)]) (st := []) (q := 7) (d' := 0) 2 rfl uX12_isWord kX12_310 rfl c1 (pX12_isWord c1 ?_)
  show PW l G 5 mX12_readPlain bg 7 [(0, (2, x0))] [(0, bI (F x0 16 = 1 ∧ F x0 17 = 14836))] (n, K, F, E) Q
  refine s_if_eq (q := 10) (tgt := 23) 3 rfl rfl (fun hb => ?_) (fun hb => ?_)
  · have hb := bI_f hb
    have b2 := hb
    replace h := h.1 hb
    refine s_aload_n (q := 24) 12 0 rfl rfl ?_
    refine s_bipush (q := 26) 13 rfl ?_
    refine n_callV (N := mX12_isSign) (as := [(0, 40)]) (st := []) (q := 29) (d' := 0) 14 rfl uX12_isSign kX12_323 rfl c1 (pX12_isSign c1 ?_)
    show PW l G 5 mX12_readPlain bg 29 [(0, (2, x0))] [(0, bI (F x0 16 = 3 ∧ F x0 17 = 40))] (n, K, F, E) Q
    refine s_if_eq (q := 32) (tgt := 40) 15 rfl rfl (fun hb => ?_) (fun hb => ?_)
    · have hb := bI_f hb
      have b3 := hb
      replace h := h.1 hb
      refine s_aload_n (q := 41) 21 0 rfl rfl ?_
      refine PW.pick [] rfl ?_
      exact n_callV (N := mX12_readPart) (as := []) (st := []) (q := 44) (d' := 4) 22 rfl uX12_readPart kX12_353 rfl c1 h
    · have hb := bI_t hb
      have b3 := hb
      replace h := h.2 hb
      refine s_aload_n (q := 33) 16 0 rfl rfl ?_
      refine s_bipush (q := 35) 17 rfl ?_
      refine PW.pick [] rfl ?_
      exact n_callV (N := mX12_openBracket) (as := [(0, 31)]) (st := []) (q := 38) (d' := 3) 18 rfl uX12_openBracket kX12_326 rfl c1 h
  · have hb := bI_t hb
    have b2 := hb
    replace h := h.2 hb
    refine s_aload_n (q := 11) 4 0 rfl rfl ?_
    refine s_bipush (q := 13) 5 rfl ?_
    refine s_iconst (q := 14) 6 rfl ?_
    refine n_callV (N := mX12_push) (as := [(0, 28), (0, 0)]) (st := []) (q := 17) (d' := 0) 7 rfl uX12_push kX12_317 rfl c1 ?_
    show PW l G 0 mX12_push (0, 0) 0 [(0, (2, x0)), (1, (0, 28)), (2, (0, 0))] [] (n, K, F, E) _
    refine s_aload_n (q := 1) 0 0 rfl rfl ?_
    refine n_getf (q := 4) (jj := 27) 1 12 27 rfl kX12_51 c1 ?_
    refine s_aload_n (q := 5) 2 0 rfl rfl ?_
    refine n_getf (q := 8) (jj := 29) 3 12 29 rfl kX12_292 c1 ?_
    refine s_iload_n (q := 9) 4 1 rfl rfl ?_
    obtain ⟨c4, h⟩ := h
    obtain ⟨c5, h⟩ := h
    obtain ⟨c6, h⟩ := h
    refine n_iast (q := 10) 5 rfl c4 c5 c6 ?_
    refine PW.nameE (fun E1 eE1 => ?_)
    replace h := h E1 eE1
    refine s_aload_n (q := 11) 6 0 rfl rfl ?_
    refine n_getf (q := 14) (jj := 28) 7 12 28 rfl kX12_54 c1 ?_
    refine s_aload_n (q := 15) 8 0 rfl rfl ?_
    refine n_getf (q := 18) (jj := 29) 9 12 29 rfl kX12_292 c1 ?_
    refine s_iload_n (q := 19) 10 2 rfl rfl ?_
    obtain ⟨c7, h⟩ := h
    obtain ⟨c8, h⟩ := h
    obtain ⟨c9, h⟩ := h
    refine n_iast (q := 20) 11 rfl c7 c8 c9 ?_
    refine PW.nameE (fun E2 eE2 => ?_)
    replace h := h E2 eE2
    refine s_aload_n (q := 21) 12 0 rfl rfl ?_
    refine s_dup (q := 22) 13 rfl ?_
    refine n_getf (q := 25) (jj := 29) 14 12 29 rfl kX12_292 c1 ?_
    refine s_iconst (q := 26) 15 rfl ?_
    obtain ⟨c10, h⟩ := h
    refine n_iadd (q := 27) 16 rfl c10 ?_
    refine n_putf (q := 30) (jj := 29) 17 12 29 rfl kX12_292 c1 (Or.inl rfl) ?_
    refine PW.nameF (fun F3 eF3 => ?_)
    replace h := h F3 eF3
    refine s_vret 18 rfl rfl ?_
    show PW l G 5 mX12_readPlain bg 17 [(0, (2, x0))] [] (n, K, F3, E2) Q
    refine s_aload_n (q := 18) 8 0 rfl rfl ?_
    refine PW.pick [] rfl ?_
    exact n_callV (N := mX12_next) (as := []) (st := []) (q := 21) (d' := 1) 9 rfl uX12_next kX12_256 rfl c1 h
theorem vX12_readPlain_21 {l : Launch} {G : pG} {bg : Nat × Nat} {n : Nat} {K : Int → Nat × Nat} {F E : Int → Int → Int} {Q : Option pV → pM → Prop} (h : Q (some (0, 0)) (n, K, F, E)) : PW l G 5 mX12_readPlain bg 21 [] [] (n, K, F, E) Q := by
  refine s_iconst (q := 22) 10 rfl ?_
  exact s_iret 11 rfl rfl h
theorem vX12_readPlain_38 {l : Launch} {G : pG} {bg : Nat × Nat} {n : Nat} {K : Int → Nat × Nat} {F E : Int → Int → Int} {Q : Option pV → pM → Prop} (h : Q (some (0, 0)) (n, K, F, E)) : PW l G 5 mX12_readPlain bg 38 [] [] (n, K, F, E) Q := by
  refine s_iconst (q := 39) 19 rfl ?_
  exact s_iret 20 rfl rfl h
theorem vX12_readPlain_44 {l : Launch} {G : pG} {bg : Nat × Nat} {n : Nat} {K : Int → Nat × Nat} {F E : Int → Int → Int} {Q : Option pV → pM → Prop} (s0 : Int) (h : Q (some (0, s0)) (n, K, F, E)) : PW l G 5 mX12_readPlain bg 44 [] [(0, s0)] (n, K, F, E) Q := by
  exact s_iret 23 rfl rfl h
