theorem vX12_behindSum_0 {l : Launch} {G : pG} {bg : Nat × Nat} {n : Nat} {K : Int → Nat × Nat} {F E : Int → Int → Int} {Q : Option pV → pM → Prop} (x0 x1 : Int) (h : (K x0).1 = 12 ∧ ((¬ (F x0 16 = 3 ∧ F x0 17 = 43) → ((¬ (F x0 16 = 3 ∧ F x0 17 = 45) → ((¬ (F x0 16 = 3 ∧ F x0 17 = 42) → ((¬ (F x0 16 = 3 ∧ F x0 17 = 47) → ((¬ (F x0 16 = 3 ∧ F x0 17 = 37) → PC l G 0 mX12_inner (0, 0) [(2, x0)] (n, K, F, E) (fun r μ => PW l G 3 mX12_behindSum bg 101 [(0, (2, x0)), (1, (0, x1))] (r.toList ++ []) μ Q)) ∧ (F x0 16 = 3 ∧ F x0 17 = 37 → PC l G 1 mX12_settle (0, 0) [(2, x0), (0, pBinds 24)] (n, K, F, E) (fun r μ => PW l G 3 mX12_behindSum bg 85 [(0, (2, x0)), (2, (0, 24))] (r.toList ++ []) μ Q)))) ∧ (F x0 16 = 3 ∧ F x0 17 = 47 → PC l G 1 mX12_settle (0, 0) [(2, x0), (0, pBinds 23)] (n, K, F, E) (fun r μ => PW l G 3 mX12_behindSum bg 85 [(0, (2, x0)), (2, (0, 23))] (r.toList ++ []) μ Q)))) ∧ (F x0 16 = 3 ∧ F x0 17 = 42 → PC l G 1 mX12_settle (0, 0) [(2, x0), (0, pBinds 22)] (n, K, F, E) (fun r μ => PW l G 3 mX12_behindSum bg 85 [(0, (2, x0)), (2, (0, 22))] (r.toList ++ []) μ Q)))) ∧ (F x0 16 = 3 ∧ F x0 17 = 45 → PC l G 1 mX12_settle (0, 0) [(2, x0), (0, pBinds 21)] (n, K, F, E) (fun r μ => PW l G 3 mX12_behindSum bg 85 [(0, (2, x0)), (2, (0, 21))] (r.toList ++ []) μ Q)))) ∧ (F x0 16 = 3 ∧ F x0 17 = 43 → PC l G 1 mX12_settle (0, 0) [(2, x0), (0, pBinds 20)] (n, K, F, E) (fun r μ => PW l G 3 mX12_behindSum bg 85 [(0, (2, x0)), (2, (0, 20))] (r.toList ++ []) μ Q)))) : PW l G 3 mX12_behindSum bg 0 [(0, (2, x0)), (1, (0, x1))] [] (n, K, F, E) Q := by
  refine s_aload_n (q := 1) 0 0 rfl rfl ?_
  refine s_bipush (q := 3) 1 rfl ?_
  obtain ⟨c1, h⟩ := h
  refine n_callV (N := mX12_isSign) (as := [(0, 43)]) (st := []) (q := 6) (d' := 0) 2 rfl uX12_isSign kX12_323 rfl c1 (pX12_isSign c1 ?_)
  show PW l G 3 mX12_behindSum bg 6 [(0, (2, x0)), (1, (0, x1))] [(0, bI (F x0 16 = 3 ∧ F x0 17 = 43))] (n, K, F, E) Q
  refine s_if_eq (q := 9) (tgt := 14) 3 rfl rfl (fun hb => ?_) (fun hb => ?_)
  · have hb := bI_f hb
    have b2 := hb
    replace h := h.1 hb
    refine s_aload_n (q := 15) 6 0 rfl rfl ?_
    refine s_bipush (q := 17) 7 rfl ?_
    refine n_callV (N := mX12_isSign) (as := [(0, 45)]) (st := []) (q := 20) (d' := 0) 8 rfl uX12_isSign kX12_323 rfl c1 (pX12_isSign c1 ?_)
    show PW l G 3 mX12_behindSum bg 20 [(0, (2, x0)), (1, (0, x1))] [(0, bI (F x0 16 = 3 ∧ F x0 17 = 45))] (n, K, F, E) Q
    refine s_if_eq (q := 23) (tgt := 28) 9 rfl rfl (fun hb => ?_) (fun hb => ?_)
    · have hb := bI_f hb
      have b3 := hb
      replace h := h.1 hb
      refine s_aload_n (q := 29) 12 0 rfl rfl ?_
      refine s_bipush (q := 31) 13 rfl ?_
      refine n_callV (N := mX12_isSign) (as := [(0, 42)]) (st := []) (q := 34) (d' := 0) 14 rfl uX12_isSign kX12_323 rfl c1 (pX12_isSign c1 ?_)
      show PW l G 3 mX12_behindSum bg 34 [(0, (2, x0)), (1, (0, x1))] [(0, bI (F x0 16 = 3 ∧ F x0 17 = 42))] (n, K, F, E) Q
      refine s_if_eq (q := 37) (tgt := 42) 15 rfl rfl (fun hb => ?_) (fun hb => ?_)
      · have hb := bI_f hb
        have b4 := hb
        replace h := h.1 hb
        refine s_aload_n (q := 43) 18 0 rfl rfl ?_
        refine s_bipush (q := 45) 19 rfl ?_
        refine n_callV (N := mX12_isSign) (as := [(0, 47)]) (st := []) (q := 48) (d' := 0) 20 rfl uX12_isSign kX12_323 rfl c1 (pX12_isSign c1 ?_)
        show PW l G 3 mX12_behindSum bg 48 [(0, (2, x0)), (1, (0, x1))] [(0, bI (F x0 16 = 3 ∧ F x0 17 = 47))] (n, K, F, E) Q
        refine s_if_eq (q := 51) (tgt := 56) 21 rfl rfl (fun hb => ?_) (fun hb => ?_)
        · have hb := bI_f hb
          have b5 := hb
          replace h := h.1 hb
          refine s_aload_n (q := 57) 24 0 rfl rfl ?_
          refine s_bipush (q := 59) 25 rfl ?_
          refine n_callV (N := mX12_isSign) (as := [(0, 37)]) (st := []) (q := 62) (d' := 0) 26 rfl uX12_isSign kX12_323 rfl c1 (pX12_isSign c1 ?_)
          show PW l G 3 mX12_behindSum bg 62 [(0, (2, x0)), (1, (0, x1))] [(0, bI (F x0 16 = 3 ∧ F x0 17 = 37))] (n, K, F, E) Q
          refine s_if_eq (q := 65) (tgt := 70) 27 rfl rfl (fun hb => ?_) (fun hb => ?_)
          · have hb := bI_f hb
            have b6 := hb
            replace h := h.1 hb
            refine s_iconst (q := 71) 30 rfl ?_
            refine s_istore_n (q := 72) (lv' := [(2, (0, (-1))), (0, (2, x0)), (1, (0, x1))]) 31 rfl rfl ?_
            refine s_iload_n (q := 73) 32 0 rfl rfl ?_
            refine s_iconst (q := 74) 33 rfl ?_
            refine s_icmp_eq (q := 77) (tgt := 97) 34 rfl rfl (fun _ => ?_) (fun hb => absurd (by decide) hb)
            refine s_aload_n (q := 98) 47 1 rfl rfl ?_
            refine PW.pick [1, 2] rfl ?_
            exact n_callV (N := mX12_inner) (as := []) (st := []) (q := 101) (d' := 0) 48 rfl uX12_inner kX12_359 rfl c1 h
          · have hb := bI_t hb
            have b6 := hb
            replace h := h.2 hb
            refine s_bipush (q := 67) 28 rfl ?_
            refine s_goto (tgt := 71) 29 rfl rfl ?_
            refine s_istore_n (q := 72) (lv' := [(2, (0, 24)), (0, (2, x0)), (1, (0, x1))]) 31 rfl rfl ?_
            refine s_iload_n (q := 73) 32 0 rfl rfl ?_
            refine s_iconst (q := 74) 33 rfl ?_
            refine s_icmp_eq (q := 77) (tgt := 97) 34 rfl rfl (fun hb => absurd hb (by decide)) (fun _ => ?_)
            refine s_aload_n (q := 78) 35 1 rfl rfl ?_
            refine s_iload_n (q := 79) 36 0 rfl rfl ?_
            refine n_callS (N := mX12_binds) (as := [(0, 24)]) (st := [(2, x0)]) (q := 82) (d' := 0) 37 rfl uX12_binds kX12_295 rfl (pX12_binds ?_)
            show PW l G 3 mX12_behindSum bg 82 [(2, (0, 24)), (0, (2, x0)), (1, (0, x1))] [(0, pBinds 24), (2, x0)] (n, K, F, E) Q
            refine PW.pick [1, 0] rfl ?_
            exact n_callV (N := mX12_settle) (as := [(0, pBinds 24)]) (st := []) (q := 85) (d' := 1) 38 rfl uX12_settle kX12_356 rfl c1 h
        · have hb := bI_t hb
          have b5 := hb
          replace h := h.2 hb
          refine s_bipush (q := 53) 22 rfl ?_
          refine s_goto (tgt := 71) 23 rfl rfl ?_
          refine s_istore_n (q := 72) (lv' := [(2, (0, 23)), (0, (2, x0)), (1, (0, x1))]) 31 rfl rfl ?_
          refine s_iload_n (q := 73) 32 0 rfl rfl ?_
          refine s_iconst (q := 74) 33 rfl ?_
          refine s_icmp_eq (q := 77) (tgt := 97) 34 rfl rfl (fun hb => absurd hb (by decide)) (fun _ => ?_)
          refine s_aload_n (q := 78) 35 1 rfl rfl ?_
          refine s_iload_n (q := 79) 36 0 rfl rfl ?_
          refine n_callS (N := mX12_binds) (as := [(0, 23)]) (st := [(2, x0)]) (q := 82) (d' := 0) 37 rfl uX12_binds kX12_295 rfl (pX12_binds ?_)
          show PW l G 3 mX12_behindSum bg 82 [(2, (0, 23)), (0, (2, x0)), (1, (0, x1))] [(0, pBinds 23), (2, x0)] (n, K, F, E) Q
          refine PW.pick [1, 0] rfl ?_
          exact n_callV (N := mX12_settle) (as := [(0, pBinds 23)]) (st := []) (q := 85) (d' := 1) 38 rfl uX12_settle kX12_356 rfl c1 h
      · have hb := bI_t hb
        have b4 := hb
        replace h := h.2 hb
        refine s_bipush (q := 39) 16 rfl ?_
        refine s_goto (tgt := 71) 17 rfl rfl ?_
        refine s_istore_n (q := 72) (lv' := [(2, (0, 22)), (0, (2, x0)), (1, (0, x1))]) 31 rfl rfl ?_
        refine s_iload_n (q := 73) 32 0 rfl rfl ?_
        refine s_iconst (q := 74) 33 rfl ?_
        refine s_icmp_eq (q := 77) (tgt := 97) 34 rfl rfl (fun hb => absurd hb (by decide)) (fun _ => ?_)
        refine s_aload_n (q := 78) 35 1 rfl rfl ?_
        refine s_iload_n (q := 79) 36 0 rfl rfl ?_
        refine n_callS (N := mX12_binds) (as := [(0, 22)]) (st := [(2, x0)]) (q := 82) (d' := 0) 37 rfl uX12_binds kX12_295 rfl (pX12_binds ?_)
        show PW l G 3 mX12_behindSum bg 82 [(2, (0, 22)), (0, (2, x0)), (1, (0, x1))] [(0, pBinds 22), (2, x0)] (n, K, F, E) Q
        refine PW.pick [1, 0] rfl ?_
        exact n_callV (N := mX12_settle) (as := [(0, pBinds 22)]) (st := []) (q := 85) (d' := 1) 38 rfl uX12_settle kX12_356 rfl c1 h
    · have hb := bI_t hb
      have b3 := hb
      replace h := h.2 hb
      refine s_bipush (q := 25) 10 rfl ?_
      refine s_goto (tgt := 71) 11 rfl rfl ?_
      refine s_istore_n (q := 72) (lv' := [(2, (0, 21)), (0, (2, x0)), (1, (0, x1))]) 31 rfl rfl ?_
      refine s_iload_n (q := 73) 32 0 rfl rfl ?_
      refine s_iconst (q := 74) 33 rfl ?_
      refine s_icmp_eq (q := 77) (tgt := 97) 34 rfl rfl (fun hb => absurd hb (by decide)) (fun _ => ?_)
      refine s_aload_n (q := 78) 35 1 rfl rfl ?_
      refine s_iload_n (q := 79) 36 0 rfl rfl ?_
      refine n_callS (N := mX12_binds) (as := [(0, 21)]) (st := [(2, x0)]) (q := 82) (d' := 0) 37 rfl uX12_binds kX12_295 rfl (pX12_binds ?_)
      show PW l G 3 mX12_behindSum bg 82 [(2, (0, 21)), (0, (2, x0)), (1, (0, x1))] [(0, pBinds 21), (2, x0)] (n, K, F, E) Q
      refine PW.pick [1, 0] rfl ?_
      exact n_callV (N := mX12_settle) (as := [(0, pBinds 21)]) (st := []) (q := 85) (d' := 1) 38 rfl uX12_settle kX12_356 rfl c1 h
  · have hb := bI_t hb
    have b2 := hb
    replace h := h.2 hb
    refine s_bipush (q := 11) 4 rfl ?_
    refine s_goto (tgt := 71) 5 rfl rfl ?_
    refine s_istore_n (q := 72) (lv' := [(2, (0, 20)), (0, (2, x0)), (1, (0, x1))]) 31 rfl rfl ?_
    refine s_iload_n (q := 73) 32 0 rfl rfl ?_
    refine s_iconst (q := 74) 33 rfl ?_
    refine s_icmp_eq (q := 77) (tgt := 97) 34 rfl rfl (fun hb => absurd hb (by decide)) (fun _ => ?_)
    refine s_aload_n (q := 78) 35 1 rfl rfl ?_
    refine s_iload_n (q := 79) 36 0 rfl rfl ?_
    refine n_callS (N := mX12_binds) (as := [(0, 20)]) (st := [(2, x0)]) (q := 82) (d' := 0) 37 rfl uX12_binds kX12_295 rfl (pX12_binds ?_)
    show PW l G 3 mX12_behindSum bg 82 [(2, (0, 20)), (0, (2, x0)), (1, (0, x1))] [(0, pBinds 20), (2, x0)] (n, K, F, E) Q
    refine PW.pick [1, 0] rfl ?_
    exact n_callV (N := mX12_settle) (as := [(0, pBinds 20)]) (st := []) (q := 85) (d' := 1) 38 rfl uX12_settle kX12_356 rfl c1 h
theorem vX12_behindSum_85 {l : Launch} {G : pG} {bg : Nat × Nat} {n : Nat} {K : Int → Nat × Nat} {F E : Int → Int → Int} {Q : Option pV → pM → Prop} (x0 x2 : Int) (h : (K x0).1 = 12 ∧ (0 : Int) ≤ F x0 27 ∧ (K (F x0 27)).1 = 20 ∧ ((0 : Int) ≤ F x0 29 ∧ F x0 29 < ((K (F x0 27)).2 : Int)) ∧ (∀ E1, E1 = pUp E (F x0 27) (F x0 29) x2 → (0 : Int) ≤ F x0 28 ∧ (K (F x0 28)).1 = 20 ∧ ((0 : Int) ≤ F x0 29 ∧ F x0 29 < ((K (F x0 28)).2 : Int)) ∧ (∀ E2, E2 = pUp E1 (F x0 28) (F x0 29) 0 → (-2147483648 ≤ (F x0 29) + 1 ∧ (F x0 29) + 1 < 2147483648) ∧ (∀ F3, F3 = pUp F x0 29 ((F x0 29) + 1) → PC l G 1 mX12_next (0, 0) [(2, x0)] (n, K, F3, E2) (fun r μ => PW l G 3 mX12_behindSum bg 95 [] (r.toList ++ []) μ Q))))) : PW l G 3 mX12_behindSum bg 85 [(0, (2, x0)), (2, (0, x2))] [] (n, K, F, E) Q := by
  refine s_aload_n (q := 86) 39 0 rfl rfl ?_
  refine s_iload_n (q := 87) 40 1 rfl rfl ?_
  refine s_iconst (q := 88) 41 rfl ?_
  obtain ⟨c1, h⟩ := h
  refine n_callV (N := mX12_push) (as := [(0, x2), (0, 0)]) (st := []) (q := 91) (d' := 0) 42 rfl uX12_push kX12_317 rfl c1 ?_
  show PW l G 0 mX12_push (0, 0) 0 [(0, (2, x0)), (1, (0, x2)), (2, (0, 0))] [] (n, K, F, E) _
  refine s_aload_n (q := 1) 0 0 rfl rfl ?_
  refine n_getf (q := 4) (jj := 27) 1 12 27 rfl kX12_51 c1 ?_
  refine s_aload_n (q := 5) 2 0 rfl rfl ?_
  refine n_getf (q := 8) (jj := 29) 3 12 29 rfl kX12_292 c1 ?_
  refine s_iload_n (q := 9) 4 1 rfl rfl ?_
  obtain ⟨c2, h⟩ := h
  obtain ⟨c3, h⟩ := h
  obtain ⟨c4, h⟩ := h
  refine n_iast (q := 10) 5 rfl c2 c3 c4 ?_
  refine PW.nameE (fun E1 eE1 => ?_)
  replace h := h E1 eE1
  refine s_aload_n (q := 11) 6 0 rfl rfl ?_
  refine n_getf (q := 14) (jj := 28) 7 12 28 rfl kX12_54 c1 ?_
  refine s_aload_n (q := 15) 8 0 rfl rfl ?_
  refine n_getf (q := 18) (jj := 29) 9 12 29 rfl kX12_292 c1 ?_
  refine s_iload_n (q := 19) 10 2 rfl rfl ?_
  obtain ⟨c5, h⟩ := h
  obtain ⟨c6, h⟩ := h
  obtain ⟨c7, h⟩ := h
  refine n_iast (q := 20) 11 rfl c5 c6 c7 ?_
  refine PW.nameE (fun E2 eE2 => ?_)
  replace h := h E2 eE2
  refine s_aload_n (q := 21) 12 0 rfl rfl ?_
  refine s_dup (q := 22) 13 rfl ?_
  refine n_getf (q := 25) (jj := 29) 14 12 29 rfl kX12_292 c1 ?_
  refine s_iconst (q := 26) 15 rfl ?_
  obtain ⟨c8, h⟩ := h
  refine n_iadd (q := 27) 16 rfl c8 ?_
  refine n_putf (q := 30) (jj := 29) 17 12 29 rfl kX12_292 c1 (Or.inl rfl) ?_
  refine PW.nameF (fun F3 eF3 => ?_)
  replace h := h F3 eF3
  refine s_vret 18 rfl rfl ?_
  show PW l G 3 mX12_behindSum bg 91 [(0, (2, x0)), (2, (0, x2))] [] (n, K, F3, E2) Q
  refine s_aload_n (q := 92) 43 0 rfl rfl ?_
  refine PW.pick [] rfl ?_
  exact n_callV (N := mX12_next) (as := []) (st := []) (q := 95) (d' := 1) 44 rfl uX12_next kX12_256 rfl c1 h
theorem vX12_behindSum_101 {l : Launch} {G : pG} {bg : Nat × Nat} {n : Nat} {K : Int → Nat × Nat} {F E : Int → Int → Int} {Q : Option pV → pM → Prop} (x0 x1 s0 : Int) (h : ((¬ s0 = 32 → ((¬ s0 = (-1) → (K x0).1 = 12 ∧ PC l G 1 mX12_isCompared (0, 0) [(2, x0)] (n, K, F, E) (fun r μ => PW l G 3 mX12_behindSum bg 167 [(0, (2, x0))] (r.toList ++ []) μ Q)) ∧ (s0 = (-1) → ((¬ x1 = 0 → (K x0).1 = 12 ∧ PC l G 1 mX12_isCompared (0, 0) [(2, x0)] (n, K, F, E) (fun r μ => PW l G 3 mX12_behindSum bg 167 [(0, (2, x0))] (r.toList ++ []) μ Q)) ∧ (x1 = 0 → Q (some (0, 4)) (n, K, F, E)))))) ∧ (s0 = 32 → (K x0).1 = 12 ∧ PC l G 2 mX12_must (0, 0) [(2, x0), (0, bI (F x0 16 = 3 ∧ F x0 17 = 93))] (n, K, F, E) (fun r μ => PW l G 3 mX12_behindSum bg 118 [(0, (2, x0))] (r.toList ++ []) μ Q)))) : PW l G 3 mX12_behindSum bg 101 [(0, (2, x0)), (1, (0, x1))] [(0, s0)] (n, K, F, E) Q := by
  refine s_istore_n (q := 102) (lv' := [(3, (0, s0)), (0, (2, x0)), (1, (0, x1))]) 49 rfl rfl ?_
  refine s_iload_n (q := 103) 50 0 rfl rfl ?_
  refine s_bipush (q := 105) 51 rfl ?_
  refine s_icmp_ne (q := 108) (tgt := 152) 52 rfl rfl (fun hb => ?_) (fun hb => ?_)
  · skip
    have b1 := hb
    replace h := h.1 hb
    refine s_iload_n (q := 153) 78 0 rfl rfl ?_
    refine s_iconst (q := 154) 79 rfl ?_
    refine s_icmp_ne (q := 157) (tgt := 163) 80 rfl rfl (fun hb => ?_) (fun hb => ?_)
    · skip
      have b2 := hb
      replace h := h.1 hb
      refine s_aload_n (q := 164) 85 1 rfl rfl ?_
      obtain ⟨c3, h⟩ := h
      refine PW.pick [1] rfl ?_
      exact n_callV (N := mX12_isCompared) (as := []) (st := []) (q := 167) (d' := 1) 86 rfl uX12_isCompared kX12_362 rfl c3 h
    · have hb := Classical.not_not.mp hb
      have b2 := hb
      replace h := h.2 hb
      refine s_iload_n (q := 158) 81 2 rfl rfl ?_
      refine s_if_ne (q := 161) (tgt := 163) 82 rfl rfl (fun hb => ?_) (fun hb => ?_)
      · skip
        have b4 := hb
        replace h := h.1 hb
        refine s_aload_n (q := 164) 85 1 rfl rfl ?_
        obtain ⟨c5, h⟩ := h
        refine PW.pick [1] rfl ?_
        exact n_callV (N := mX12_isCompared) (as := []) (st := []) (q := 167) (d' := 1) 86 rfl uX12_isCompared kX12_362 rfl c5 h
      · have hb := Classical.not_not.mp hb
        have b4 := hb
        replace h := h.2 hb
        refine s_iconst (q := 162) 83 rfl ?_
        exact s_iret 84 rfl rfl h
  · have hb := Classical.not_not.mp hb
    have b1 := hb
    replace h := h.2 hb
    refine s_aload_n (q := 109) 53 1 rfl rfl ?_
    refine s_aload_n (q := 110) 54 1 rfl rfl ?_
    refine s_bipush (q := 112) 55 rfl ?_
    obtain ⟨c6, h⟩ := h
    refine n_callV (N := mX12_isSign) (as := [(0, 93)]) (st := [(2, x0)]) (q := 115) (d' := 0) 56 rfl uX12_isSign kX12_323 rfl c6 (pX12_isSign c6 ?_)
    show PW l G 3 mX12_behindSum bg 115 [(3, (0, s0)), (0, (2, x0)), (1, (0, x1))] [(0, bI (F x0 16 = 3 ∧ F x0 17 = 93)), (2, x0)] (n, K, F, E) Q
    refine PW.pick [1] rfl ?_
    exact n_callV (N := mX12_must) (as := [(0, bI (F x0 16 = 3 ∧ F x0 17 = 93))]) (st := []) (q := 118) (d' := 2) 57 rfl uX12_must kX12_285 rfl c6 h
theorem vX12_behindSum_95 {l : Launch} {G : pG} {bg : Nat × Nat} {n : Nat} {K : Int → Nat × Nat} {F E : Int → Int → Int} {Q : Option pV → pM → Prop} (h : Q (some (0, 1)) (n, K, F, E)) : PW l G 3 mX12_behindSum bg 95 [] [] (n, K, F, E) Q := by
  refine s_iconst (q := 96) 45 rfl ?_
  exact s_iret 46 rfl rfl h
theorem vX12_behindSum_118 {l : Launch} {G : pG} {bg : Nat × Nat} {n : Nat} {K : Int → Nat × Nat} {F E : Int → Int → Int} {Q : Option pV → pM → Prop} (x0 : Int) (h : (K x0).1 = 12 ∧ ((¬ (F x0 19) = 0 → Q (some (0, 3)) (n, K, F, E)) ∧ ((F x0 19) = 0 → PC l G 1 mX12_settle (0, 0) [(2, x0), (0, 5)] (n, K, F, E) (fun r μ => PW l G 3 mX12_behindSum bg 130 [(0, (2, x0))] (r.toList ++ []) μ Q)))) : PW l G 3 mX12_behindSum bg 118 [(0, (2, x0))] [] (n, K, F, E) Q := by
  refine s_aload_n (q := 119) 58 0 rfl rfl ?_
  obtain ⟨c1, h⟩ := h
  refine n_getf (q := 122) (jj := 19) 59 12 19 rfl kX12_252 c1 ?_
  refine s_if_ne (q := 125) (tgt := 150) 60 rfl rfl (fun hb => ?_) (fun hb => ?_)
  · skip
    have b2 := hb
    replace h := h.1 hb
    refine s_iconst (q := 151) 76 rfl ?_
    exact s_iret 77 rfl rfl h
  · have hb := Classical.not_not.mp hb
    have b2 := hb
    replace h := h.2 hb
    refine s_aload_n (q := 126) 61 0 rfl rfl ?_
    refine s_iconst (q := 127) 62 rfl ?_
    refine PW.pick [0] rfl ?_
    exact n_callV (N := mX12_settle) (as := [(0, 5)]) (st := []) (q := 130) (d' := 1) 63 rfl uX12_settle kX12_356 rfl c1 h
theorem vX12_behindSum_167 {l : Launch} {G : pG} {bg : Nat × Nat} {n : Nat} {K : Int → Nat × Nat} {F E : Int → Int → Int} {Q : Option pV → pM → Prop} (x0 s0 : Int) (h : ((s0 = 0 → (K x0).1 = 12 ∧ ((¬ (F x0 16 = 3 ∧ F x0 17 = 60) → ((¬ (F x0 16 = 3 ∧ F x0 17 = 62) → ((¬ (F x0 16 = 3 ∧ F x0 17 = 61) → PC l G 2 mX12_must (0, 0) [(2, x0), (0, 0)] (n, K, F, E) (fun r μ => PW l G 3 mX12_behindSum bg 227 [(0, (2, x0)), (2, (0, 27))] (r.toList ++ []) μ Q)) ∧ (F x0 16 = 3 ∧ F x0 17 = 61 → PC l G 2 mX12_must (0, 0) [(2, x0), (0, 1)] (n, K, F, E) (fun r μ => PW l G 3 mX12_behindSum bg 227 [(0, (2, x0)), (2, (0, 27))] (r.toList ++ []) μ Q)))) ∧ (F x0 16 = 3 ∧ F x0 17 = 62 → PC l G 2 mX12_must (0, 0) [(2, x0), (0, 1)] (n, K, F, E) (fun r μ => PW l G 3 mX12_behindSum bg 227 [(0, (2, x0)), (2, (0, 26))] (r.toList ++ []) μ Q)))) ∧ (F x0 16 = 3 ∧ F x0 17 = 60 → PC l G 2 mX12_must (0, 0) [(2, x0), (0, 1)] (n, K, F, E) (fun r μ => PW l G 3 mX12_behindSum bg 227 [(0, (2, x0)), (2, (0, 25))] (r.toList ++ []) μ Q)))) ∧ (¬ (s0 = 0) → Q (some (0, 2)) (n, K, F, E)))) : PW l G 3 mX12_behindSum bg 167 [(0, (2, x0))] [(0, s0)] (n, K, F, E) Q := by
  refine s_if_eq (q := 170) (tgt := 172) 87 rfl rfl (fun hb => ?_) (fun hb => ?_)
  · skip
    have b1 := hb
    replace h := h.1 hb
    refine s_aload_n (q := 173) 90 0 rfl rfl ?_
    refine s_bipush (q := 175) 91 rfl ?_
    obtain ⟨c2, h⟩ := h
    refine n_callV (N := mX12_isSign) (as := [(0, 60)]) (st := []) (q := 178) (d' := 0) 92 rfl uX12_isSign kX12_323 rfl c2 (pX12_isSign c2 ?_)
    show PW l G 3 mX12_behindSum bg 178 [(0, (2, x0))] [(0, bI (F x0 16 = 3 ∧ F x0 17 = 60))] (n, K, F, E) Q
    refine s_if_eq (q := 181) (tgt := 186) 93 rfl rfl (fun hb => ?_) (fun hb => ?_)
    · have hb := bI_f hb
      have b3 := hb
      replace h := h.1 hb
      refine s_aload_n (q := 187) 96 0 rfl rfl ?_
      refine s_bipush (q := 189) 97 rfl ?_
      refine n_callV (N := mX12_isSign) (as := [(0, 62)]) (st := []) (q := 192) (d' := 0) 98 rfl uX12_isSign kX12_323 rfl c2 (pX12_isSign c2 ?_)
      show PW l G 3 mX12_behindSum bg 192 [(0, (2, x0))] [(0, bI (F x0 16 = 3 ∧ F x0 17 = 62))] (n, K, F, E) Q
      refine s_if_eq (q := 195) (tgt := 200) 99 rfl rfl (fun hb => ?_) (fun hb => ?_)
      · have hb := bI_f hb
        have b4 := hb
        replace h := h.1 hb
        refine s_bipush (q := 202) 102 rfl ?_
        refine s_istore_n (q := 203) (lv' := [(2, (0, 27)), (0, (2, x0))]) 103 rfl rfl ?_
        refine s_aload_n (q := 204) 104 1 rfl rfl ?_
        refine s_iload_n (q := 205) 105 0 rfl rfl ?_
        refine s_bipush (q := 207) 106 rfl ?_
        refine s_icmp_ne (q := 210) (tgt := 219) 107 rfl rfl (fun hb => absurd hb (by decide)) (fun _ => ?_)
        refine s_aload_n (q := 211) 108 1 rfl rfl ?_
        refine s_bipush (q := 213) 109 rfl ?_
        refine n_callV (N := mX12_isSign) (as := [(0, 61)]) (st := [(2, x0)]) (q := 216) (d' := 0) 110 rfl uX12_isSign kX12_323 rfl c2 (pX12_isSign c2 ?_)
        show PW l G 3 mX12_behindSum bg 216 [(2, (0, 27)), (0, (2, x0))] [(0, bI (F x0 16 = 3 ∧ F x0 17 = 61)), (2, x0)] (n, K, F, E) Q
        refine s_if_eq (q := 219) (tgt := 223) 111 rfl rfl (fun hb => ?_) (fun hb => ?_)
        · have hb := bI_f hb
          have b5 := hb
          replace h := h.1 hb
          refine s_iconst (q := 224) 114 rfl ?_
          refine PW.pick [1, 0] rfl ?_
          exact n_callV (N := mX12_must) (as := [(0, 0)]) (st := []) (q := 227) (d' := 2) 115 rfl uX12_must kX12_285 rfl c2 h
        · have hb := bI_t hb
          have b5 := hb
          replace h := h.2 hb
          refine s_iconst (q := 220) 112 rfl ?_
          refine s_goto (tgt := 224) 113 rfl rfl ?_
          refine PW.pick [1, 0] rfl ?_
          exact n_callV (N := mX12_must) (as := [(0, 1)]) (st := []) (q := 227) (d' := 2) 115 rfl uX12_must kX12_285 rfl c2 h
      · have hb := bI_t hb
        have b4 := hb
        replace h := h.2 hb
        refine s_bipush (q := 197) 100 rfl ?_
        refine s_goto (tgt := 202) 101 rfl rfl ?_
        refine s_istore_n (q := 203) (lv' := [(2, (0, 26)), (0, (2, x0))]) 103 rfl rfl ?_
        refine s_aload_n (q := 204) 104 1 rfl rfl ?_
        refine s_iload_n (q := 205) 105 0 rfl rfl ?_
        refine s_bipush (q := 207) 106 rfl ?_
        refine s_icmp_ne (q := 210) (tgt := 219) 107 rfl rfl (fun _ => ?_) (fun hb => absurd (by decide) hb)
        refine s_iconst (q := 220) 112 rfl ?_
        refine s_goto (tgt := 224) 113 rfl rfl ?_
        refine PW.pick [1, 0] rfl ?_
        exact n_callV (N := mX12_must) (as := [(0, 1)]) (st := []) (q := 227) (d' := 2) 115 rfl uX12_must kX12_285 rfl c2 h
    · have hb := bI_t hb
      have b3 := hb
      replace h := h.2 hb
      refine s_bipush (q := 183) 94 rfl ?_
      refine s_goto (tgt := 202) 95 rfl rfl ?_
      refine s_istore_n (q := 203) (lv' := [(2, (0, 25)), (0, (2, x0))]) 103 rfl rfl ?_
      refine s_aload_n (q := 204) 104 1 rfl rfl ?_
      refine s_iload_n (q := 205) 105 0 rfl rfl ?_
      refine s_bipush (q := 207) 106 rfl ?_
      refine s_icmp_ne (q := 210) (tgt := 219) 107 rfl rfl (fun _ => ?_) (fun hb => absurd (by decide) hb)
      refine s_iconst (q := 220) 112 rfl ?_
      refine s_goto (tgt := 224) 113 rfl rfl ?_
      refine PW.pick [1, 0] rfl ?_
      exact n_callV (N := mX12_must) (as := [(0, 1)]) (st := []) (q := 227) (d' := 2) 115 rfl uX12_must kX12_285 rfl c2 h
  · skip
    have b1 := hb
    replace h := h.2 hb
    refine s_iconst (q := 171) 88 rfl ?_
    exact s_iret 89 rfl rfl h
theorem vX12_behindSum_130 {l : Launch} {G : pG} {bg : Nat × Nat} {n : Nat} {K : Int → Nat × Nat} {F E : Int → Int → Int} {Q : Option pV → pM → Prop} (x0 : Int) (h : (K x0).1 = 12 ∧ (-2147483648 ≤ (F x0 29) - 1 ∧ (F x0 29) - 1 < 2147483648) ∧ (∀ F1, F1 = pUp F x0 29 ((F x0 29) - 1) → (-2147483648 ≤ (F x0 30) - 1 ∧ (F x0 30) - 1 < 2147483648) ∧ (∀ F2, F2 = pUp F1 x0 30 ((F x0 30) - 1) → Q (some (0, 3)) (n, K, F2, E)))) : PW l G 3 mX12_behindSum bg 130 [(0, (2, x0))] [] (n, K, F, E) Q := by
  refine s_aload_n (q := 131) 64 0 rfl rfl ?_
  refine s_dup (q := 132) 65 rfl ?_
  obtain ⟨c1, h⟩ := h
  refine n_getf (q := 135) (jj := 29) 66 12 29 rfl kX12_292 c1 ?_
  refine s_iconst (q := 136) 67 rfl ?_
  obtain ⟨c2, h⟩ := h
  refine n_isub (q := 137) 68 rfl c2 ?_
  refine n_putf (q := 140) (jj := 29) 69 12 29 rfl kX12_292 c1 (Or.inl rfl) ?_
  refine PW.nameF (fun F1 eF1 => ?_)
  replace h := h F1 eF1
  refine s_aload_n (q := 141) 70 0 rfl rfl ?_
  refine s_dup (q := 142) 71 rfl ?_
  refine n_getf (q := 145) (jj := 30) 72 12 30 rfl kX12_314 c1 ?_
  refine PW.top (b := F x0 30) (by exact (congrFun (congrFun eF1 _) _).trans (pUp_k (by decide))) ?_
  refine s_iconst (q := 146) 73 rfl ?_
  obtain ⟨c3, h⟩ := h
  refine n_isub (q := 147) 74 rfl c3 ?_
  refine n_putf (q := 150) (jj := 30) 75 12 30 rfl kX12_314 c1 (Or.inl rfl) ?_
  refine PW.nameF (fun F2 eF2 => ?_)
  replace h := h F2 eF2
  refine s_iconst (q := 151) 76 rfl ?_
  exact s_iret 77 rfl rfl h
theorem vX12_behindSum_227 {l : Launch} {G : pG} {bg : Nat × Nat} {n : Nat} {K : Int → Nat × Nat} {F E : Int → Int → Int} {Q : Option pV → pM → Prop} (x0 x2 : Int) (h : (K x0).1 = 12 ∧ ((¬ (F x0 19) = 0 → Q (some (0, 1)) (n, K, F, E)) ∧ ((F x0 19) = 0 → PC l G 1 mX12_settle (0, 0) [(2, x0), (0, 5)] (n, K, F, E) (fun r μ => PW l G 3 mX12_behindSum bg 239 [(0, (2, x0)), (2, (0, x2))] (r.toList ++ []) μ Q)))) : PW l G 3 mX12_behindSum bg 227 [(0, (2, x0)), (2, (0, x2))] [] (n, K, F, E) Q := by
  refine s_aload_n (q := 228) 116 0 rfl rfl ?_
  obtain ⟨c1, h⟩ := h
  refine n_getf (q := 231) (jj := 19) 117 12 19 rfl kX12_252 c1 ?_
  refine s_if_ne (q := 234) (tgt := 245) 118 rfl rfl (fun hb => ?_) (fun hb => ?_)
  · skip
    have b2 := hb
    replace h := h.1 hb
    refine s_iconst (q := 246) 126 rfl ?_
    exact s_iret 127 rfl rfl h
  · have hb := Classical.not_not.mp hb
    have b2 := hb
    replace h := h.2 hb
    refine s_aload_n (q := 235) 119 0 rfl rfl ?_
    refine s_iconst (q := 236) 120 rfl ?_
    refine PW.pick [0, 1] rfl ?_
    exact n_callV (N := mX12_settle) (as := [(0, 5)]) (st := []) (q := 239) (d' := 1) 121 rfl uX12_settle kX12_356 rfl c1 h
theorem vX12_behindSum_239 {l : Launch} {G : pG} {bg : Nat × Nat} {n : Nat} {K : Int → Nat × Nat} {F E : Int → Int → Int} {Q : Option pV → pM → Prop} (x0 x2 : Int) (h : (K x0).1 = 12 ∧ (0 : Int) ≤ F x0 27 ∧ (K (F x0 27)).1 = 20 ∧ ((0 : Int) ≤ F x0 29 ∧ F x0 29 < ((K (F x0 27)).2 : Int)) ∧ (∀ E1, E1 = pUp E (F x0 27) (F x0 29) x2 → (0 : Int) ≤ F x0 28 ∧ (K (F x0 28)).1 = 20 ∧ ((0 : Int) ≤ F x0 29 ∧ F x0 29 < ((K (F x0 28)).2 : Int)) ∧ (∀ E2, E2 = pUp E1 (F x0 28) (F x0 29) 0 → (-2147483648 ≤ (F x0 29) + 1 ∧ (F x0 29) + 1 < 2147483648) ∧ (∀ F3, F3 = pUp F x0 29 ((F x0 29) + 1) → Q (some (0, 1)) (n, K, F3, E2))))) : PW l G 3 mX12_behindSum bg 239 [(0, (2, x0)), (2, (0, x2))] [] (n, K, F, E) Q := by
  refine s_aload_n (q := 240) 122 0 rfl rfl ?_
  refine s_iload_n (q := 241) 123 1 rfl rfl ?_
  refine s_iconst (q := 242) 124 rfl ?_
  obtain ⟨c1, h⟩ := h
  refine n_callV (N := mX12_push) (as := [(0, x2), (0, 0)]) (st := []) (q := 245) (d' := 0) 125 rfl uX12_push kX12_317 rfl c1 ?_
  show PW l G 0 mX12_push (0, 0) 0 [(0, (2, x0)), (1, (0, x2)), (2, (0, 0))] [] (n, K, F, E) _
  refine s_aload_n (q := 1) 0 0 rfl rfl ?_
  refine n_getf (q := 4) (jj := 27) 1 12 27 rfl kX12_51 c1 ?_
  refine s_aload_n (q := 5) 2 0 rfl rfl ?_
  refine n_getf (q := 8) (jj := 29) 3 12 29 rfl kX12_292 c1 ?_
  refine s_iload_n (q := 9) 4 1 rfl rfl ?_
  obtain ⟨c2, h⟩ := h
  obtain ⟨c3, h⟩ := h
  obtain ⟨c4, h⟩ := h
  refine n_iast (q := 10) 5 rfl c2 c3 c4 ?_
  refine PW.nameE (fun E1 eE1 => ?_)
  replace h := h E1 eE1
  refine s_aload_n (q := 11) 6 0 rfl rfl ?_
  refine n_getf (q := 14) (jj := 28) 7 12 28 rfl kX12_54 c1 ?_
  refine s_aload_n (q := 15) 8 0 rfl rfl ?_
  refine n_getf (q := 18) (jj := 29) 9 12 29 rfl kX12_292 c1 ?_
  refine s_iload_n (q := 19) 10 2 rfl rfl ?_
  obtain ⟨c5, h⟩ := h
  obtain ⟨c6, h⟩ := h
  obtain ⟨c7, h⟩ := h
  refine n_iast (q := 20) 11 rfl c5 c6 c7 ?_
  refine PW.nameE (fun E2 eE2 => ?_)
  replace h := h E2 eE2
  refine s_aload_n (q := 21) 12 0 rfl rfl ?_
  refine s_dup (q := 22) 13 rfl ?_
  refine n_getf (q := 25) (jj := 29) 14 12 29 rfl kX12_292 c1 ?_
  refine s_iconst (q := 26) 15 rfl ?_
  obtain ⟨c8, h⟩ := h
  refine n_iadd (q := 27) 16 rfl c8 ?_
  refine n_putf (q := 30) (jj := 29) 17 12 29 rfl kX12_292 c1 (Or.inl rfl) ?_
  refine PW.nameF (fun F3 eF3 => ?_)
  replace h := h F3 eF3
  refine s_vret 18 rfl rfl ?_
  show PW l G 3 mX12_behindSum bg 245 [(0, (2, x0)), (2, (0, x2))] [] (n, K, F3, E2) Q
  refine s_iconst (q := 246) 126 rfl ?_
  exact s_iret 127 rfl rfl h
theorem vX12_behindTest_0 {l : Launch} {G : pG} {bg : Nat × Nat} {n : Nat} {K : Int → Nat × Nat} {F E : Int → Int → Int} {Q : Option pV → pM → Prop} (x0 : Int) (h : (K x0).1 = 12 ∧ ((F x0 16 = 1 ∧ F x0 17 = 1476 → ((¬ (F x0 16 = 1 ∧ F x0 17 = 1476) → PC l G 1 mX12_settle (0, 0) [(2, x0), (0, 1)] (n, K, F, E) (fun r μ => PW l G 3 mX12_behindTest bg 35 [(0, (2, x0)), (1, (0, bI (F x0 16 = 1 ∧ F x0 17 = 1476)))] (r.toList ++ []) μ Q)) ∧ (F x0 16 = 1 ∧ F x0 17 = 1476 → PC l G 1 mX12_settle (0, 0) [(2, x0), (0, 2)] (n, K, F, E) (fun r μ => PW l G 3 mX12_behindTest bg 35 [(0, (2, x0)), (1, (0, bI (F x0 16 = 1 ∧ F x0 17 = 1476)))] (r.toList ++ []) μ Q)))) ∧ (¬ (F x0 16 = 1 ∧ F x0 17 = 1476) → ((¬ (F x0 16 = 1 ∧ F x0 17 = 498) → PC l G 0 mX12_inner (0, 0) [(2, x0)] (n, K, F, E) (fun r μ => PW l G 3 mX12_behindTest bg 80 [(0, (2, x0))] (r.toList ++ []) μ Q)) ∧ (F x0 16 = 1 ∧ F x0 17 = 498 → ((¬ (F x0 16 = 1 ∧ F x0 17 = 1476) → PC l G 1 mX12_settle (0, 0) [(2, x0), (0, 1)] (n, K, F, E) (fun r μ => PW l G 3 mX12_behindTest bg 35 [(0, (2, x0)), (1, (0, bI (F x0 16 = 1 ∧ F x0 17 = 1476)))] (r.toList ++ []) μ Q)) ∧ (F x0 16 = 1 ∧ F x0 17 = 1476 → PC l G 1 mX12_settle (0, 0) [(2, x0), (0, 2)] (n, K, F, E) (fun r μ => PW l G 3 mX12_behindTest bg 35 [(0, (2, x0)), (1, (0, bI (F x0 16 = 1 ∧ F x0 17 = 1476)))] (r.toList ++ []) μ Q)))))))) : PW l G 3 mX12_behindTest bg 0 [(0, (2, x0))] [] (n, K, F, E) Q := by
  refine s_aload_n (q := 1) 0 0 rfl rfl ?_
  refine s_ldc2 (q := 4) (x := 1476) 1 rfl kX12_366 ?_
  obtain ⟨c1, h⟩ := h
  refine n_callV (N := mX12_isWord) (as := [(1, 1476)]) (st := []) (q := 7) (d' := 0) 2 rfl uX12_isWord kX12_310 rfl c1 (pX12_isWord c1 ?_)
  show PW l G 3 mX12_behindTest bg 7 [(0, (2, x0))] [(0, bI (F x0 16 = 1 ∧ F x0 17 = 1476))] (n, K, F, E) Q
  refine s_istore_n (q := 8) (lv' := [(1, (0, bI (F x0 16 = 1 ∧ F x0 17 = 1476))), (0, (2, x0))]) 3 rfl rfl ?_
  refine s_iload_n (q := 9) 4 0 rfl rfl ?_
  refine s_if_ne (q := 12) (tgt := 22) 5 rfl rfl (fun hb => ?_) (fun hb => ?_)
  · have hb := bI_t hb
    have b2 := hb
    replace h := h.1 hb
    refine s_aload_n (q := 23) 10 1 rfl rfl ?_
    refine s_iload_n (q := 24) 11 0 rfl rfl ?_
    refine s_if_eq (q := 27) (tgt := 31) 12 rfl rfl (fun hb => ?_) (fun hb => ?_)
    · have hb := bI_f hb
      have b3 := hb
      replace h := h.1 hb
      refine s_iconst (q := 32) 15 rfl ?_
      refine PW.pick [1, 0] rfl ?_
      exact n_callV (N := mX12_settle) (as := [(0, 1)]) (st := []) (q := 35) (d' := 1) 16 rfl uX12_settle kX12_356 rfl c1 h
    · have hb := bI_t hb
      have b3 := hb
      replace h := h.2 hb
      refine s_iconst (q := 28) 13 rfl ?_
      refine s_goto (tgt := 32) 14 rfl rfl ?_
      refine PW.pick [1, 0] rfl ?_
      exact n_callV (N := mX12_settle) (as := [(0, 2)]) (st := []) (q := 35) (d' := 1) 16 rfl uX12_settle kX12_356 rfl c1 h
  · have hb := bI_f2 hb
    have b2 := hb
    replace h := h.2 hb
    refine s_aload_n (q := 13) 6 1 rfl rfl ?_
    refine s_ldc2 (q := 16) (x := 498) 7 rfl kX12_368 ?_
    refine n_callV (N := mX12_isWord) (as := [(1, 498)]) (st := []) (q := 19) (d' := 0) 8 rfl uX12_isWord kX12_310 rfl c1 (pX12_isWord c1 ?_)
    show PW l G 3 mX12_behindTest bg 19 [(1, (0, bI (F x0 16 = 1 ∧ F x0 17 = 1476))), (0, (2, x0))] [(0, bI (F x0 16 = 1 ∧ F x0 17 = 498))] (n, K, F, E) Q
    refine s_if_eq (q := 22) (tgt := 76) 9 rfl rfl (fun hb => ?_) (fun hb => ?_)
    · have hb := bI_f hb
      have b4 := hb
      replace h := h.1 hb
      refine s_aload_n (q := 77) 38 1 rfl rfl ?_
      refine PW.pick [1] rfl ?_
      exact n_callV (N := mX12_inner) (as := []) (st := []) (q := 80) (d' := 0) 39 rfl uX12_inner kX12_359 rfl c1 h
    · have hb := bI_t hb
      have b4 := hb
      replace h := h.2 hb
      refine s_aload_n (q := 23) 10 1 rfl rfl ?_
      refine s_iload_n (q := 24) 11 0 rfl rfl ?_
      refine s_if_eq (q := 27) (tgt := 31) 12 rfl rfl (fun hb => ?_) (fun hb => ?_)
      · have hb := bI_f hb
        have b5 := hb
        replace h := h.1 hb
        refine s_iconst (q := 32) 15 rfl ?_
        refine PW.pick [1, 0] rfl ?_
        exact n_callV (N := mX12_settle) (as := [(0, 1)]) (st := []) (q := 35) (d' := 1) 16 rfl uX12_settle kX12_356 rfl c1 h
      · have hb := bI_t hb
        have b5 := hb
        replace h := h.2 hb
        refine s_iconst (q := 28) 13 rfl ?_
        refine s_goto (tgt := 32) 14 rfl rfl ?_
        refine PW.pick [1, 0] rfl ?_
        exact n_callV (N := mX12_settle) (as := [(0, 2)]) (st := []) (q := 35) (d' := 1) 16 rfl uX12_settle kX12_356 rfl c1 h
theorem vX12_behindTest_35 {l : Launch} {G : pG} {bg : Nat × Nat} {n : Nat} {K : Int → Nat × Nat} {F E : Int → Int → Int} {Q : Option pV → pM → Prop} (x0 x1 : Int) (h : ((x1 = 0 → (K x0).1 = 12 ∧ (0 : Int) ≤ F x0 27 ∧ (K (F x0 27)).1 = 20 ∧ ((0 : Int) ≤ F x0 29 ∧ F x0 29 < ((K (F x0 27)).2 : Int)) ∧ (∀ E1, E1 = pUp E (F x0 27) (F x0 29) 30 → (0 : Int) ≤ F x0 28 ∧ (K (F x0 28)).1 = 20 ∧ ((0 : Int) ≤ F x0 29 ∧ F x0 29 < ((K (F x0 28)).2 : Int)) ∧ (∀ E2, E2 = pUp E1 (F x0 28) (F x0 29) (F x0 23) → (-2147483648 ≤ (F x0 29) + 1 ∧ (F x0 29) + 1 < 2147483648) ∧ (∀ F3, F3 = pUp F x0 29 ((F x0 29) + 1) → ((x1 = 0 → (0 : Int) ≤ F x0 24 ∧ (K (F x0 24)).1 = 20 ∧ ((0 : Int) ≤ F x0 23 ∧ F x0 23 < ((K (F x0 24)).2 : Int)) ∧ (∀ E4, E4 = pUp E2 (F x0 24) (F x0 23) 30 → (0 : Int) ≤ F x0 25 ∧ (K (F x0 25)).1 = 20 ∧ ((0 : Int) ≤ F x0 23 ∧ F x0 23 < ((K (F x0 25)).2 : Int)) ∧ (∀ E5, E5 = pUp E4 (F x0 25) (F x0 23) 0 → (-2147483648 ≤ (F x0 23) + 1 ∧ (F x0 23) + 1 < 2147483648) ∧ (∀ F6, F6 = pUp F3 x0 23 ((F x0 23) + 1) → PC l G 1 mX12_next (0, 0) [(2, x0)] (n, K, F6, E5) (fun r μ => PW l G 3 mX12_behindTest bg 74 [] (r.toList ++ []) μ Q))))) ∧ (¬ (x1 = 0) → (0 : Int) ≤ F x0 24 ∧ (K (F x0 24)).1 = 20 ∧ ((0 : Int) ≤ F x0 23 ∧ F x0 23 < ((K (F x0 24)).2 : Int)) ∧ (∀ E7, E7 = pUp E2 (F x0 24) (F x0 23) 29 → (0 : Int) ≤ F x0 25 ∧ (K (F x0 25)).1 = 20 ∧ ((0 : Int) ≤ F x0 23 ∧ F x0 23 < ((K (F x0 25)).2 : Int)) ∧ (∀ E8, E8 = pUp E7 (F x0 25) (F x0 23) 0 → (-2147483648 ≤ (F x0 23) + 1 ∧ (F x0 23) + 1 < 2147483648) ∧ (∀ F9, F9 = pUp F3 x0 23 ((F x0 23) + 1) → PC l G 1 mX12_next (0, 0) [(2, x0)] (n, K, F9, E8) (fun r μ => PW l G 3 mX12_behindTest bg 74 [] (r.toList ++ []) μ Q)))))))))) ∧ (¬ (x1 = 0) → (K x0).1 = 12 ∧ (0 : Int) ≤ F x0 27 ∧ (K (F x0 27)).1 = 20 ∧ ((0 : Int) ≤ F x0 29 ∧ F x0 29 < ((K (F x0 27)).2 : Int)) ∧ (∀ E10, E10 = pUp E (F x0 27) (F x0 29) 29 → (0 : Int) ≤ F x0 28 ∧ (K (F x0 28)).1 = 20 ∧ ((0 : Int) ≤ F x0 29 ∧ F x0 29 < ((K (F x0 28)).2 : Int)) ∧ (∀ E11, E11 = pUp E10 (F x0 28) (F x0 29) (F x0 23) → (-2147483648 ≤ (F x0 29) + 1 ∧ (F x0 29) + 1 < 2147483648) ∧ (∀ F12, F12 = pUp F x0 29 ((F x0 29) + 1) → ((x1 = 0 → (0 : Int) ≤ F x0 24 ∧ (K (F x0 24)).1 = 20 ∧ ((0 : Int) ≤ F x0 23 ∧ F x0 23 < ((K (F x0 24)).2 : Int)) ∧ (∀ E13, E13 = pUp E11 (F x0 24) (F x0 23) 30 → (0 : Int) ≤ F x0 25 ∧ (K (F x0 25)).1 = 20 ∧ ((0 : Int) ≤ F x0 23 ∧ F x0 23 < ((K (F x0 25)).2 : Int)) ∧ (∀ E14, E14 = pUp E13 (F x0 25) (F x0 23) 0 → (-2147483648 ≤ (F x0 23) + 1 ∧ (F x0 23) + 1 < 2147483648) ∧ (∀ F15, F15 = pUp F12 x0 23 ((F x0 23) + 1) → PC l G 1 mX12_next (0, 0) [(2, x0)] (n, K, F15, E14) (fun r μ => PW l G 3 mX12_behindTest bg 74 [] (r.toList ++ []) μ Q))))) ∧ (¬ (x1 = 0) → (0 : Int) ≤ F x0 24 ∧ (K (F x0 24)).1 = 20 ∧ ((0 : Int) ≤ F x0 23 ∧ F x0 23 < ((K (F x0 24)).2 : Int)) ∧ (∀ E16, E16 = pUp E11 (F x0 24) (F x0 23) 29 → (0 : Int) ≤ F x0 25 ∧ (K (F x0 25)).1 = 20 ∧ ((0 : Int) ≤ F x0 23 ∧ F x0 23 < ((K (F x0 25)).2 : Int)) ∧ (∀ E17, E17 = pUp E16 (F x0 25) (F x0 23) 0 → (-2147483648 ≤ (F x0 23) + 1 ∧ (F x0 23) + 1 < 2147483648) ∧ (∀ F18, F18 = pUp F12 x0 23 ((F x0 23) + 1) → PC l G 1 mX12_next (0, 0) [(2, x0)] (n, K, F18, E17) (fun r μ => PW l G 3 mX12_behindTest bg 74 [] (r.toList ++ []) μ Q)))))))))))) : PW l G 3 mX12_behindTest bg 35 [(0, (2, x0)), (1, (0, x1))] [] (n, K, F, E) Q := by
  refine s_aload_n (q := 36) 17 0 rfl rfl ?_
  refine s_iload_n (q := 37) 18 1 rfl rfl ?_
  refine s_if_eq (q := 40) (tgt := 45) 19 rfl rfl (fun hb => ?_) (fun hb => ?_)
  · skip
    have b1 := hb
    replace h := h.1 hb
    refine s_bipush (q := 47) 22 rfl ?_
    refine s_aload_n (q := 48) 23 0 rfl rfl ?_
    obtain ⟨c2, h⟩ := h
    refine n_getf (q := 51) (jj := 23) 24 12 23 rfl kX12_289 c2 ?_
    refine n_callV (N := mX12_push) (as := [(0, 30), (0, F x0 23)]) (st := []) (q := 54) (d' := 0) 25 rfl uX12_push kX12_317 rfl c2 ?_
    show PW l G 0 mX12_push (0, 0) 0 [(0, (2, x0)), (1, (0, 30)), (2, (0, F x0 23))] [] (n, K, F, E) _
    refine s_aload_n (q := 1) 0 0 rfl rfl ?_
    refine n_getf (q := 4) (jj := 27) 1 12 27 rfl kX12_51 c2 ?_
    refine s_aload_n (q := 5) 2 0 rfl rfl ?_
    refine n_getf (q := 8) (jj := 29) 3 12 29 rfl kX12_292 c2 ?_
    refine s_iload_n (q := 9) 4 1 rfl rfl ?_
    obtain ⟨c3, h⟩ := h
    obtain ⟨c4, h⟩ := h
    obtain ⟨c5, h⟩ := h
    refine n_iast (q := 10) 5 rfl c3 c4 c5 ?_
    refine PW.nameE (fun E1 eE1 => ?_)
    replace h := h E1 eE1
    refine s_aload_n (q := 11) 6 0 rfl rfl ?_
    refine n_getf (q := 14) (jj := 28) 7 12 28 rfl kX12_54 c2 ?_
    refine s_aload_n (q := 15) 8 0 rfl rfl ?_
    refine n_getf (q := 18) (jj := 29) 9 12 29 rfl kX12_292 c2 ?_
    refine s_iload_n (q := 19) 10 2 rfl rfl ?_
    obtain ⟨c6, h⟩ := h
    obtain ⟨c7, h⟩ := h
    obtain ⟨c8, h⟩ := h
    refine n_iast (q := 20) 11 rfl c6 c7 c8 ?_
    refine PW.nameE (fun E2 eE2 => ?_)
    replace h := h E2 eE2
    refine s_aload_n (q := 21) 12 0 rfl rfl ?_
    refine s_dup (q := 22) 13 rfl ?_
    refine n_getf (q := 25) (jj := 29) 14 12 29 rfl kX12_292 c2 ?_
    refine s_iconst (q := 26) 15 rfl ?_
    obtain ⟨c9, h⟩ := h
    refine n_iadd (q := 27) 16 rfl c9 ?_
    refine n_putf (q := 30) (jj := 29) 17 12 29 rfl kX12_292 c2 (Or.inl rfl) ?_
    refine PW.nameF (fun F3 eF3 => ?_)
    replace h := h F3 eF3
    refine s_vret 18 rfl rfl ?_
    show PW l G 3 mX12_behindTest bg 54 [(0, (2, x0)), (1, (0, x1))] [] (n, K, F3, E2) Q
    refine s_aload_n (q := 55) 26 0 rfl rfl ?_
    refine s_iload_n (q := 56) 27 1 rfl rfl ?_
    refine s_if_eq (q := 59) (tgt := 64) 28 rfl rfl (fun hb => ?_) (fun hb => ?_)
    · skip
      have b10 := hb
      replace h := h.1 hb
      refine s_bipush (q := 66) 31 rfl ?_
      refine s_iconst (q := 67) 32 rfl ?_
      refine n_callV (N := mX12_emit) (as := [(0, 30), (0, 0)]) (st := []) (q := 70) (d' := 0) 33 rfl uX12_emit kX12_298 rfl c2 ?_
      show PW l G 0 mX12_emit (0, 0) 0 [(0, (2, x0)), (1, (0, 30)), (2, (0, 0))] [] (n, K, F3, E2) _
      refine s_aload_n (q := 1) 0 0 rfl rfl ?_
      refine n_getf (q := 4) (jj := 24) 1 12 24 rfl kX12_45 c2 ?_
      refine PW.top (b := F x0 24) (by exact (congrFun (congrFun eF3 _) _).trans (pUp_k (by decide))) ?_
      refine s_aload_n (q := 5) 2 0 rfl rfl ?_
      refine n_getf (q := 8) (jj := 23) 3 12 23 rfl kX12_289 c2 ?_
      refine PW.top (b := F x0 23) (by exact (congrFun (congrFun eF3 _) _).trans (pUp_k (by decide))) ?_
      refine s_iload_n (q := 9) 4 1 rfl rfl ?_
      obtain ⟨c11, h⟩ := h
      obtain ⟨c12, h⟩ := h
      obtain ⟨c13, h⟩ := h
      refine n_iast (q := 10) 5 rfl c11 c12 c13 ?_
      refine PW.nameE (fun E4 eE4 => ?_)
      replace h := h E4 eE4
      refine s_aload_n (q := 11) 6 0 rfl rfl ?_
      refine n_getf (q := 14) (jj := 25) 7 12 25 rfl kX12_48 c2 ?_
      refine PW.top (b := F x0 25) (by exact (congrFun (congrFun eF3 _) _).trans (pUp_k (by decide))) ?_
      refine s_aload_n (q := 15) 8 0 rfl rfl ?_
      refine n_getf (q := 18) (jj := 23) 9 12 23 rfl kX12_289 c2 ?_
      refine PW.top (b := F x0 23) (by exact (congrFun (congrFun eF3 _) _).trans (pUp_k (by decide))) ?_
      refine s_iload_n (q := 19) 10 2 rfl rfl ?_
      obtain ⟨c14, h⟩ := h
      obtain ⟨c15, h⟩ := h
      obtain ⟨c16, h⟩ := h
      refine n_iast (q := 20) 11 rfl c14 c15 c16 ?_
      refine PW.nameE (fun E5 eE5 => ?_)
      replace h := h E5 eE5
      refine s_aload_n (q := 21) 12 0 rfl rfl ?_
      refine s_dup (q := 22) 13 rfl ?_
      refine n_getf (q := 25) (jj := 23) 14 12 23 rfl kX12_289 c2 ?_
      refine PW.top (b := F x0 23) (by exact (congrFun (congrFun eF3 _) _).trans (pUp_k (by decide))) ?_
      refine s_iconst (q := 26) 15 rfl ?_
      obtain ⟨c17, h⟩ := h
      refine n_iadd (q := 27) 16 rfl c17 ?_
      refine n_putf (q := 30) (jj := 23) 17 12 23 rfl kX12_289 c2 (Or.inl rfl) ?_
      refine PW.nameF (fun F6 eF6 => ?_)
      replace h := h F6 eF6
      refine s_vret 18 rfl rfl ?_
      show PW l G 3 mX12_behindTest bg 70 [(0, (2, x0)), (1, (0, x1))] [] (n, K, F6, E5) Q
      refine s_aload_n (q := 71) 34 0 rfl rfl ?_
      refine PW.pick [] rfl ?_
      exact n_callV (N := mX12_next) (as := []) (st := []) (q := 74) (d' := 1) 35 rfl uX12_next kX12_256 rfl c2 h
    · skip
      have b10 := hb
      replace h := h.2 hb
      refine s_bipush (q := 61) 29 rfl ?_
      refine s_goto (tgt := 66) 30 rfl rfl ?_
      refine s_iconst (q := 67) 32 rfl ?_
      refine n_callV (N := mX12_emit) (as := [(0, 29), (0, 0)]) (st := []) (q := 70) (d' := 0) 33 rfl uX12_emit kX12_298 rfl c2 ?_
      show PW l G 0 mX12_emit (0, 0) 0 [(0, (2, x0)), (1, (0, 29)), (2, (0, 0))] [] (n, K, F3, E2) _
      refine s_aload_n (q := 1) 0 0 rfl rfl ?_
      refine n_getf (q := 4) (jj := 24) 1 12 24 rfl kX12_45 c2 ?_
      refine PW.top (b := F x0 24) (by exact (congrFun (congrFun eF3 _) _).trans (pUp_k (by decide))) ?_
      refine s_aload_n (q := 5) 2 0 rfl rfl ?_
      refine n_getf (q := 8) (jj := 23) 3 12 23 rfl kX12_289 c2 ?_
      refine PW.top (b := F x0 23) (by exact (congrFun (congrFun eF3 _) _).trans (pUp_k (by decide))) ?_
      refine s_iload_n (q := 9) 4 1 rfl rfl ?_
      obtain ⟨c18, h⟩ := h
      obtain ⟨c19, h⟩ := h
      obtain ⟨c20, h⟩ := h
      refine n_iast (q := 10) 5 rfl c18 c19 c20 ?_
      refine PW.nameE (fun E7 eE7 => ?_)
      replace h := h E7 eE7
      refine s_aload_n (q := 11) 6 0 rfl rfl ?_
      refine n_getf (q := 14) (jj := 25) 7 12 25 rfl kX12_48 c2 ?_
      refine PW.top (b := F x0 25) (by exact (congrFun (congrFun eF3 _) _).trans (pUp_k (by decide))) ?_
      refine s_aload_n (q := 15) 8 0 rfl rfl ?_
      refine n_getf (q := 18) (jj := 23) 9 12 23 rfl kX12_289 c2 ?_
      refine PW.top (b := F x0 23) (by exact (congrFun (congrFun eF3 _) _).trans (pUp_k (by decide))) ?_
      refine s_iload_n (q := 19) 10 2 rfl rfl ?_
      obtain ⟨c21, h⟩ := h
      obtain ⟨c22, h⟩ := h
      obtain ⟨c23, h⟩ := h
      refine n_iast (q := 20) 11 rfl c21 c22 c23 ?_
      refine PW.nameE (fun E8 eE8 => ?_)
      replace h := h E8 eE8
      refine s_aload_n (q := 21) 12 0 rfl rfl ?_
      refine s_dup (q := 22) 13 rfl ?_
      refine n_getf (q := 25) (jj := 23) 14 12 23 rfl kX12_289 c2 ?_
      refine PW.top (b := F x0 23) (by exact (congrFun (congrFun eF3 _) _).trans (pUp_k (by decide))) ?_
      refine s_iconst (q := 26) 15 rfl ?_
      obtain ⟨c24, h⟩ := h
      refine n_iadd (q := 27) 16 rfl c24 ?_
      refine n_putf (q := 30) (jj := 23) 17 12 23 rfl kX12_289 c2 (Or.inl rfl) ?_
      refine PW.nameF (fun F9 eF9 => ?_)
      replace h := h F9 eF9
      refine s_vret 18 rfl rfl ?_
      show PW l G 3 mX12_behindTest bg 70 [(0, (2, x0)), (1, (0, x1))] [] (n, K, F9, E8) Q
      refine s_aload_n (q := 71) 34 0 rfl rfl ?_
      refine PW.pick [] rfl ?_
      exact n_callV (N := mX12_next) (as := []) (st := []) (q := 74) (d' := 1) 35 rfl uX12_next kX12_256 rfl c2 h
  · skip
    have b1 := hb
    replace h := h.2 hb
    refine s_bipush (q := 42) 20 rfl ?_
    refine s_goto (tgt := 47) 21 rfl rfl ?_
    refine s_aload_n (q := 48) 23 0 rfl rfl ?_
    obtain ⟨c25, h⟩ := h
    refine n_getf (q := 51) (jj := 23) 24 12 23 rfl kX12_289 c25 ?_
    refine n_callV (N := mX12_push) (as := [(0, 29), (0, F x0 23)]) (st := []) (q := 54) (d' := 0) 25 rfl uX12_push kX12_317 rfl c25 ?_
    show PW l G 0 mX12_push (0, 0) 0 [(0, (2, x0)), (1, (0, 29)), (2, (0, F x0 23))] [] (n, K, F, E) _
    refine s_aload_n (q := 1) 0 0 rfl rfl ?_
    refine n_getf (q := 4) (jj := 27) 1 12 27 rfl kX12_51 c25 ?_
    refine s_aload_n (q := 5) 2 0 rfl rfl ?_
    refine n_getf (q := 8) (jj := 29) 3 12 29 rfl kX12_292 c25 ?_
    refine s_iload_n (q := 9) 4 1 rfl rfl ?_
    obtain ⟨c26, h⟩ := h
    obtain ⟨c27, h⟩ := h
    obtain ⟨c28, h⟩ := h
    refine n_iast (q := 10) 5 rfl c26 c27 c28 ?_
    refine PW.nameE (fun E10 eE10 => ?_)
    replace h := h E10 eE10
    refine s_aload_n (q := 11) 6 0 rfl rfl ?_
    refine n_getf (q := 14) (jj := 28) 7 12 28 rfl kX12_54 c25 ?_
    refine s_aload_n (q := 15) 8 0 rfl rfl ?_
    refine n_getf (q := 18) (jj := 29) 9 12 29 rfl kX12_292 c25 ?_
    refine s_iload_n (q := 19) 10 2 rfl rfl ?_
    obtain ⟨c29, h⟩ := h
    obtain ⟨c30, h⟩ := h
    obtain ⟨c31, h⟩ := h
    refine n_iast (q := 20) 11 rfl c29 c30 c31 ?_
    refine PW.nameE (fun E11 eE11 => ?_)
    replace h := h E11 eE11
    refine s_aload_n (q := 21) 12 0 rfl rfl ?_
    refine s_dup (q := 22) 13 rfl ?_
    refine n_getf (q := 25) (jj := 29) 14 12 29 rfl kX12_292 c25 ?_
    refine s_iconst (q := 26) 15 rfl ?_
    obtain ⟨c32, h⟩ := h
    refine n_iadd (q := 27) 16 rfl c32 ?_
    refine n_putf (q := 30) (jj := 29) 17 12 29 rfl kX12_292 c25 (Or.inl rfl) ?_
    refine PW.nameF (fun F12 eF12 => ?_)
    replace h := h F12 eF12
    refine s_vret 18 rfl rfl ?_
    show PW l G 3 mX12_behindTest bg 54 [(0, (2, x0)), (1, (0, x1))] [] (n, K, F12, E11) Q
    refine s_aload_n (q := 55) 26 0 rfl rfl ?_
    refine s_iload_n (q := 56) 27 1 rfl rfl ?_
    refine s_if_eq (q := 59) (tgt := 64) 28 rfl rfl (fun hb => ?_) (fun hb => ?_)
    · skip
      have b33 := hb
      replace h := h.1 hb
      refine s_bipush (q := 66) 31 rfl ?_
      refine s_iconst (q := 67) 32 rfl ?_
      refine n_callV (N := mX12_emit) (as := [(0, 30), (0, 0)]) (st := []) (q := 70) (d' := 0) 33 rfl uX12_emit kX12_298 rfl c25 ?_
      show PW l G 0 mX12_emit (0, 0) 0 [(0, (2, x0)), (1, (0, 30)), (2, (0, 0))] [] (n, K, F12, E11) _
      refine s_aload_n (q := 1) 0 0 rfl rfl ?_
      refine n_getf (q := 4) (jj := 24) 1 12 24 rfl kX12_45 c25 ?_
      refine PW.top (b := F x0 24) (by exact (congrFun (congrFun eF12 _) _).trans (pUp_k (by decide))) ?_
      refine s_aload_n (q := 5) 2 0 rfl rfl ?_
      refine n_getf (q := 8) (jj := 23) 3 12 23 rfl kX12_289 c25 ?_
      refine PW.top (b := F x0 23) (by exact (congrFun (congrFun eF12 _) _).trans (pUp_k (by decide))) ?_
      refine s_iload_n (q := 9) 4 1 rfl rfl ?_
      obtain ⟨c34, h⟩ := h
      obtain ⟨c35, h⟩ := h
      obtain ⟨c36, h⟩ := h
      refine n_iast (q := 10) 5 rfl c34 c35 c36 ?_
      refine PW.nameE (fun E13 eE13 => ?_)
      replace h := h E13 eE13
      refine s_aload_n (q := 11) 6 0 rfl rfl ?_
      refine n_getf (q := 14) (jj := 25) 7 12 25 rfl kX12_48 c25 ?_
      refine PW.top (b := F x0 25) (by exact (congrFun (congrFun eF12 _) _).trans (pUp_k (by decide))) ?_
      refine s_aload_n (q := 15) 8 0 rfl rfl ?_
      refine n_getf (q := 18) (jj := 23) 9 12 23 rfl kX12_289 c25 ?_
      refine PW.top (b := F x0 23) (by exact (congrFun (congrFun eF12 _) _).trans (pUp_k (by decide))) ?_
      refine s_iload_n (q := 19) 10 2 rfl rfl ?_
      obtain ⟨c37, h⟩ := h
      obtain ⟨c38, h⟩ := h
      obtain ⟨c39, h⟩ := h
      refine n_iast (q := 20) 11 rfl c37 c38 c39 ?_
      refine PW.nameE (fun E14 eE14 => ?_)
      replace h := h E14 eE14
      refine s_aload_n (q := 21) 12 0 rfl rfl ?_
      refine s_dup (q := 22) 13 rfl ?_
      refine n_getf (q := 25) (jj := 23) 14 12 23 rfl kX12_289 c25 ?_
      refine PW.top (b := F x0 23) (by exact (congrFun (congrFun eF12 _) _).trans (pUp_k (by decide))) ?_
      refine s_iconst (q := 26) 15 rfl ?_
      obtain ⟨c40, h⟩ := h
      refine n_iadd (q := 27) 16 rfl c40 ?_
      refine n_putf (q := 30) (jj := 23) 17 12 23 rfl kX12_289 c25 (Or.inl rfl) ?_
      refine PW.nameF (fun F15 eF15 => ?_)
      replace h := h F15 eF15
      refine s_vret 18 rfl rfl ?_
      show PW l G 3 mX12_behindTest bg 70 [(0, (2, x0)), (1, (0, x1))] [] (n, K, F15, E14) Q
      refine s_aload_n (q := 71) 34 0 rfl rfl ?_
      refine PW.pick [] rfl ?_
      exact n_callV (N := mX12_next) (as := []) (st := []) (q := 74) (d' := 1) 35 rfl uX12_next kX12_256 rfl c25 h
    · skip
      have b33 := hb
      replace h := h.2 hb
      refine s_bipush (q := 61) 29 rfl ?_
      refine s_goto (tgt := 66) 30 rfl rfl ?_
      refine s_iconst (q := 67) 32 rfl ?_
      refine n_callV (N := mX12_emit) (as := [(0, 29), (0, 0)]) (st := []) (q := 70) (d' := 0) 33 rfl uX12_emit kX12_298 rfl c25 ?_
      show PW l G 0 mX12_emit (0, 0) 0 [(0, (2, x0)), (1, (0, 29)), (2, (0, 0))] [] (n, K, F12, E11) _
      refine s_aload_n (q := 1) 0 0 rfl rfl ?_
      refine n_getf (q := 4) (jj := 24) 1 12 24 rfl kX12_45 c25 ?_
      refine PW.top (b := F x0 24) (by exact (congrFun (congrFun eF12 _) _).trans (pUp_k (by decide))) ?_
      refine s_aload_n (q := 5) 2 0 rfl rfl ?_
      refine n_getf (q := 8) (jj := 23) 3 12 23 rfl kX12_289 c25 ?_
      refine PW.top (b := F x0 23) (by exact (congrFun (congrFun eF12 _) _).trans (pUp_k (by decide))) ?_
      refine s_iload_n (q := 9) 4 1 rfl rfl ?_
      obtain ⟨c41, h⟩ := h
      obtain ⟨c42, h⟩ := h
      obtain ⟨c43, h⟩ := h
      refine n_iast (q := 10) 5 rfl c41 c42 c43 ?_
      refine PW.nameE (fun E16 eE16 => ?_)
      replace h := h E16 eE16
      refine s_aload_n (q := 11) 6 0 rfl rfl ?_
      refine n_getf (q := 14) (jj := 25) 7 12 25 rfl kX12_48 c25 ?_
      refine PW.top (b := F x0 25) (by exact (congrFun (congrFun eF12 _) _).trans (pUp_k (by decide))) ?_
      refine s_aload_n (q := 15) 8 0 rfl rfl ?_
      refine n_getf (q := 18) (jj := 23) 9 12 23 rfl kX12_289 c25 ?_
      refine PW.top (b := F x0 23) (by exact (congrFun (congrFun eF12 _) _).trans (pUp_k (by decide))) ?_
      refine s_iload_n (q := 19) 10 2 rfl rfl ?_
      obtain ⟨c44, h⟩ := h
      obtain ⟨c45, h⟩ := h
      obtain ⟨c46, h⟩ := h
      refine n_iast (q := 20) 11 rfl c44 c45 c46 ?_
      refine PW.nameE (fun E17 eE17 => ?_)
      replace h := h E17 eE17
      refine s_aload_n (q := 21) 12 0 rfl rfl ?_
      refine s_dup (q := 22) 13 rfl ?_
      refine n_getf (q := 25) (jj := 23) 14 12 23 rfl kX12_289 c25 ?_
      refine PW.top (b := F x0 23) (by exact (congrFun (congrFun eF12 _) _).trans (pUp_k (by decide))) ?_
      refine s_iconst (q := 26) 15 rfl ?_
      obtain ⟨c47, h⟩ := h
      refine n_iadd (q := 27) 16 rfl c47 ?_
      refine n_putf (q := 30) (jj := 23) 17 12 23 rfl kX12_289 c25 (Or.inl rfl) ?_
      refine PW.nameF (fun F18 eF18 => ?_)
      replace h := h F18 eF18
      refine s_vret 18 rfl rfl ?_
      show PW l G 3 mX12_behindTest bg 70 [(0, (2, x0)), (1, (0, x1))] [] (n, K, F18, E17) Q
      refine s_aload_n (q := 71) 34 0 rfl rfl ?_
      refine PW.pick [] rfl ?_
      exact n_callV (N := mX12_next) (as := []) (st := []) (q := 74) (d' := 1) 35 rfl uX12_next kX12_256 rfl c25 h
theorem vX12_behindTest_80 {l : Launch} {G : pG} {bg : Nat × Nat} {n : Nat} {K : Int → Nat × Nat} {F E : Int → Int → Int} {Q : Option pV → pM → Prop} (x0 s0 : Int) (h : ((¬ s0 = (-1) → (K x0).1 = 12 ∧ PC l G 2 mX12_must (0, 0) [(2, x0), (0, bI (F x0 16 = 3 ∧ F x0 17 = 41))] (n, K, F, E) (fun r μ => PW l G 3 mX12_behindTest bg 96 [(0, (2, x0))] (r.toList ++ []) μ Q)) ∧ (s0 = (-1) → Q (some (0, 4)) (n, K, F, E)))) : PW l G 3 mX12_behindTest bg 80 [(0, (2, x0))] [(0, s0)] (n, K, F, E) Q := by
  refine s_iconst (q := 81) 40 rfl ?_
  refine s_icmp_ne (q := 84) (tgt := 86) 41 rfl rfl (fun hb => ?_) (fun hb => ?_)
  · skip
    have b1 := hb
    replace h := h.1 hb
    refine s_aload_n (q := 87) 44 0 rfl rfl ?_
    refine s_aload_n (q := 88) 45 0 rfl rfl ?_
    refine s_bipush (q := 90) 46 rfl ?_
    obtain ⟨c2, h⟩ := h
    refine n_callV (N := mX12_isSign) (as := [(0, 41)]) (st := [(2, x0)]) (q := 93) (d' := 0) 47 rfl uX12_isSign kX12_323 rfl c2 (pX12_isSign c2 ?_)
    show PW l G 3 mX12_behindTest bg 93 [(0, (2, x0))] [(0, bI (F x0 16 = 3 ∧ F x0 17 = 41)), (2, x0)] (n, K, F, E) Q
    refine PW.pick [0] rfl ?_
    exact n_callV (N := mX12_must) (as := [(0, bI (F x0 16 = 3 ∧ F x0 17 = 41))]) (st := []) (q := 96) (d' := 2) 48 rfl uX12_must kX12_285 rfl c2 h
  · have hb := Classical.not_not.mp hb
    have b1 := hb
    replace h := h.2 hb
    refine s_iconst (q := 85) 42 rfl ?_
    exact s_iret 43 rfl rfl h
theorem vX12_behindTest_74 {l : Launch} {G : pG} {bg : Nat × Nat} {n : Nat} {K : Int → Nat × Nat} {F E : Int → Int → Int} {Q : Option pV → pM → Prop} (h : Q (some (0, 0)) (n, K, F, E)) : PW l G 3 mX12_behindTest bg 74 [] [] (n, K, F, E) Q := by
  refine s_iconst (q := 75) 36 rfl ?_
  exact s_iret 37 rfl rfl h
theorem vX12_behindTest_96 {l : Launch} {G : pG} {bg : Nat × Nat} {n : Nat} {K : Int → Nat × Nat} {F E : Int → Int → Int} {Q : Option pV → pM → Prop} (x0 : Int) (h : (K x0).1 = 12 ∧ ((¬ (F x0 19) = 0 → Q (some (0, 2)) (n, K, F, E)) ∧ ((F x0 19) = 0 → PC l G 1 mX12_settle (0, 0) [(2, x0), (0, 1)] (n, K, F, E) (fun r μ => PW l G 3 mX12_behindTest bg 108 [(0, (2, x0))] (r.toList ++ []) μ Q)))) : PW l G 3 mX12_behindTest bg 96 [(0, (2, x0))] [] (n, K, F, E) Q := by
  refine s_aload_n (q := 97) 49 0 rfl rfl ?_
  obtain ⟨c1, h⟩ := h
  refine n_getf (q := 100) (jj := 19) 50 12 19 rfl kX12_252 c1 ?_
  refine s_if_ne (q := 103) (tgt := 128) 51 rfl rfl (fun hb => ?_) (fun hb => ?_)
  · skip
    have b2 := hb
    replace h := h.1 hb
    refine s_iconst (q := 129) 67 rfl ?_
    exact s_iret 68 rfl rfl h
  · have hb := Classical.not_not.mp hb
    have b2 := hb
    replace h := h.2 hb
    refine s_aload_n (q := 104) 52 0 rfl rfl ?_
    refine s_iconst (q := 105) 53 rfl ?_
    refine PW.pick [0] rfl ?_
    exact n_callV (N := mX12_settle) (as := [(0, 1)]) (st := []) (q := 108) (d' := 1) 54 rfl uX12_settle kX12_356 rfl c1 h
theorem vX12_behindTest_108 {l : Launch} {G : pG} {bg : Nat × Nat} {n : Nat} {K : Int → Nat × Nat} {F E : Int → Int → Int} {Q : Option pV → pM → Prop} (x0 : Int) (h : (K x0).1 = 12 ∧ (-2147483648 ≤ (F x0 29) - 1 ∧ (F x0 29) - 1 < 2147483648) ∧ (∀ F1, F1 = pUp F x0 29 ((F x0 29) - 1) → (-2147483648 ≤ (F x0 30) - 1 ∧ (F x0 30) - 1 < 2147483648) ∧ (∀ F2, F2 = pUp F1 x0 30 ((F x0 30) - 1) → Q (some (0, 2)) (n, K, F2, E)))) : PW l G 3 mX12_behindTest bg 108 [(0, (2, x0))] [] (n, K, F, E) Q := by
  refine s_aload_n (q := 109) 55 0 rfl rfl ?_
  refine s_dup (q := 110) 56 rfl ?_
  obtain ⟨c1, h⟩ := h
  refine n_getf (q := 113) (jj := 29) 57 12 29 rfl kX12_292 c1 ?_
  refine s_iconst (q := 114) 58 rfl ?_
  obtain ⟨c2, h⟩ := h
  refine n_isub (q := 115) 59 rfl c2 ?_
  refine n_putf (q := 118) (jj := 29) 60 12 29 rfl kX12_292 c1 (Or.inl rfl) ?_
  refine PW.nameF (fun F1 eF1 => ?_)
  replace h := h F1 eF1
  refine s_aload_n (q := 119) 61 0 rfl rfl ?_
  refine s_dup (q := 120) 62 rfl ?_
  refine n_getf (q := 123) (jj := 30) 63 12 30 rfl kX12_314 c1 ?_
  refine PW.top (b := F x0 30) (by exact (congrFun (congrFun eF1 _) _).trans (pUp_k (by decide))) ?_
  refine s_iconst (q := 124) 64 rfl ?_
  obtain ⟨c3, h⟩ := h
  refine n_isub (q := 125) 65 rfl c3 ?_
  refine n_putf (q := 128) (jj := 30) 66 12 30 rfl kX12_314 c1 (Or.inl rfl) ?_
  refine PW.nameF (fun F2 eF2 => ?_)
  replace h := h F2 eF2
  refine s_iconst (q := 129) 67 rfl ?_
  exact s_iret 68 rfl rfl h
theorem vX12_readExpression_0 {l : Launch} {G : pG} {bg : Nat × Nat} {n : Nat} {K : Int → Nat × Nat} {F E : Int → Int → Int} {Q : Option pV → pM → Prop} (x0 x1 : Int) (h : (K x0).1 = 12 ∧ (∀ F1, F1 = pUp F x0 29 0 → (∀ F2, F2 = pUp F1 x0 30 0 → ((x1 = 0 → PW l G 6 mX12_readExpression bg 20 [(0, (2, x0)), (1, (0, x1)), (2, (0, 1))] [] (n, K, F2, E) Q) ∧ (¬ (x1 = 0) → PW l G 6 mX12_readExpression bg 20 [(0, (2, x0)), (1, (0, x1)), (2, (0, 0))] [] (n, K, F2, E) Q))))) : PW l G 6 mX12_readExpression bg 0 [(0, (2, x0)), (1, (0, x1))] [] (n, K, F, E) Q := by
  refine s_aload_n (q := 1) 0 0 rfl rfl ?_
  refine s_iconst (q := 2) 1 rfl ?_
  obtain ⟨c1, h⟩ := h
  refine n_putf (q := 5) (jj := 29) 2 12 29 rfl kX12_292 c1 (Or.inl rfl) ?_
  refine PW.nameF (fun F1 eF1 => ?_)
  replace h := h F1 eF1
  refine s_aload_n (q := 6) 3 0 rfl rfl ?_
  refine s_iconst (q := 7) 4 rfl ?_
  refine n_putf (q := 10) (jj := 30) 5 12 30 rfl kX12_314 c1 (Or.inl rfl) ?_
  refine PW.nameF (fun F2 eF2 => ?_)
  replace h := h F2 eF2
  refine s_iload_n (q := 11) 6 1 rfl rfl ?_
  refine s_if_eq (q := 14) (tgt := 18) 7 rfl rfl (fun hb => ?_) (fun hb => ?_)
  · skip
    have b2 := hb
    replace h := h.1 hb
    refine s_iconst (q := 19) 10 rfl ?_
    refine s_istore_n (q := 20) (lv' := [(2, (0, 1)), (0, (2, x0)), (1, (0, x1))]) 11 rfl rfl ?_
    refine PW.pick [1, 2, 0] rfl ?_
    exact h
  · skip
    have b2 := hb
    replace h := h.2 hb
    refine s_iconst (q := 15) 8 rfl ?_
    refine s_goto (tgt := 19) 9 rfl rfl ?_
    refine s_istore_n (q := 20) (lv' := [(2, (0, 0)), (0, (2, x0)), (1, (0, x1))]) 11 rfl rfl ?_
    refine PW.pick [1, 2, 0] rfl ?_
    exact h
theorem vX12_readExpression_20 {l : Launch} {G : pG} {bg : Nat × Nat} {n : Nat} {K : Int → Nat × Nat} {F E : Int → Int → Int} {Q : Option pV → pM → Prop} (x0 x1 x2 : Int) (h : (K x0).1 = 12 ∧ ((¬ (F x0 19) = 0 → PC l G 1 mX12_settle (0, 0) [(2, x0), (0, 1)] (n, K, F, E) (fun r μ => PW l G 6 mX12_readExpression bg 81 [] (r.toList ++ []) μ Q)) ∧ ((F x0 19) = 0 → ((x2 = 4 → PC l G 1 mX12_settle (0, 0) [(2, x0), (0, 1)] (n, K, F, E) (fun r μ => PW l G 6 mX12_readExpression bg 81 [] (r.toList ++ []) μ Q)) ∧ (¬ (x2 = 4) → ((¬ x2 = 0 → ((¬ x2 = 1 → ((¬ x2 = 3 → PC l G 3 mX12_behindTest (0, 0) [(2, x0)] (n, K, F, E) (fun r μ => PW l G 6 mX12_readExpression bg 72 [(0, (2, x0)), (1, (0, x1))] (r.toList ++ []) μ Q)) ∧ (x2 = 3 → PC l G 3 mX12_behindSum (0, 0) [(2, x0), (0, x1)] (n, K, F, E) (fun r μ => PW l G 6 mX12_readExpression bg 65 [(0, (2, x0)), (1, (0, x1))] (r.toList ++ []) μ Q)))) ∧ (x2 = 1 → PC l G 4 mX12_readPart (0, 0) [(2, x0)] (n, K, F, E) (fun r μ => PW l G 6 mX12_readExpression bg 52 [(0, (2, x0)), (1, (0, x1))] (r.toList ++ []) μ Q)))) ∧ (x2 = 0 → PC l G 5 mX12_readPlain (0, 0) [(2, x0)] (n, K, F, E) (fun r μ => PW l G 6 mX12_readExpression bg 40 [(0, (2, x0)), (1, (0, x1))] (r.toList ++ []) μ Q)))))))) : PW l G 6 mX12_readExpression bg 20 [(0, (2, x0)), (1, (0, x1)), (2, (0, x2))] [] (n, K, F, E) Q := by
  refine s_aload_n (q := 21) 12 0 rfl rfl ?_
  obtain ⟨c1, h⟩ := h
  refine n_getf (q := 24) (jj := 19) 13 12 19 rfl kX12_252 c1 ?_
  refine s_if_ne (q := 27) (tgt := 76) 14 rfl rfl (fun hb => ?_) (fun hb => ?_)
  · skip
    have b2 := hb
    replace h := h.1 hb
    refine s_aload_n (q := 77) 40 0 rfl rfl ?_
    refine s_iconst (q := 78) 41 rfl ?_
    refine PW.pick [] rfl ?_
    exact n_callV (N := mX12_settle) (as := [(0, 1)]) (st := []) (q := 81) (d' := 1) 42 rfl uX12_settle kX12_356 rfl c1 h
  · have hb := Classical.not_not.mp hb
    have b2 := hb
    replace h := h.2 hb
    refine s_iload_n (q := 28) 15 2 rfl rfl ?_
    refine s_iconst (q := 29) 16 rfl ?_
    refine s_icmp_eq (q := 32) (tgt := 76) 17 rfl rfl (fun hb => ?_) (fun hb => ?_)
    · skip
      have b3 := hb
      replace h := h.1 hb
      refine s_aload_n (q := 77) 40 0 rfl rfl ?_
      refine s_iconst (q := 78) 41 rfl ?_
      refine PW.pick [] rfl ?_
      exact n_callV (N := mX12_settle) (as := [(0, 1)]) (st := []) (q := 81) (d' := 1) 42 rfl uX12_settle kX12_356 rfl c1 h
    · skip
      have b3 := hb
      replace h := h.2 hb
      refine s_iload_n (q := 33) 18 2 rfl rfl ?_
      refine s_if_ne (q := 36) (tgt := 43) 19 rfl rfl (fun hb => ?_) (fun hb => ?_)
      · skip
        have b4 := hb
        replace h := h.1 hb
        refine s_iload_n (q := 44) 23 2 rfl rfl ?_
        refine s_iconst (q := 45) 24 rfl ?_
        refine s_icmp_ne (q := 48) (tgt := 55) 25 rfl rfl (fun hb => ?_) (fun hb => ?_)
        · skip
          have b5 := hb
          replace h := h.1 hb
          refine s_iload_n (q := 56) 29 2 rfl rfl ?_
          refine s_iconst (q := 57) 30 rfl ?_
          refine s_icmp_ne (q := 60) (tgt := 68) 31 rfl rfl (fun hb => ?_) (fun hb => ?_)
          · skip
            have b6 := hb
            replace h := h.1 hb
            refine s_aload_n (q := 69) 36 0 rfl rfl ?_
            refine PW.pick [0, 1] rfl ?_
            exact n_callV (N := mX12_behindTest) (as := []) (st := []) (q := 72) (d' := 3) 37 rfl uX12_behindTest kX12_377 rfl c1 h
          · have hb := Classical.not_not.mp hb
            have b6 := hb
            replace h := h.2 hb
            refine s_aload_n (q := 61) 32 0 rfl rfl ?_
            refine s_iload_n (q := 62) 33 1 rfl rfl ?_
            refine PW.pick [0, 1] rfl ?_
            exact n_callV (N := mX12_behindSum) (as := [(0, x1)]) (st := []) (q := 65) (d' := 3) 34 rfl uX12_behindSum kX12_373 rfl c1 h
        · have hb := Classical.not_not.mp hb
          have b5 := hb
          replace h := h.2 hb
          refine s_aload_n (q := 49) 26 0 rfl rfl ?_
          refine PW.pick [0, 1] rfl ?_
          exact n_callV (N := mX12_readPart) (as := []) (st := []) (q := 52) (d' := 4) 27 rfl uX12_readPart kX12_353 rfl c1 h
      · have hb := Classical.not_not.mp hb
        have b4 := hb
        replace h := h.2 hb
        refine s_aload_n (q := 37) 20 0 rfl rfl ?_
        refine PW.pick [0, 1] rfl ?_
        exact n_callV (N := mX12_readPlain) (as := []) (st := []) (q := 40) (d' := 5) 21 rfl uX12_readPlain kX12_370 rfl c1 h
theorem vX12_readExpression_40 {l : Launch} {G : pG} {bg : Nat × Nat} {n : Nat} {K : Int → Nat × Nat} {F E : Int → Int → Int} {Q : Option pV → pM → Prop} (x0 x1 s0 : Int) (h : PW l G 6 mX12_readExpression bg 20 [(0, (2, x0)), (1, (0, x1)), (2, (0, s0))] [] (n, K, F, E) Q) : PW l G 6 mX12_readExpression bg 40 [(0, (2, x0)), (1, (0, x1))] [(0, s0)] (n, K, F, E) Q := by
  refine s_goto (tgt := 72) 22 rfl rfl ?_
  refine s_istore_n (q := 73) (lv' := [(2, (0, s0)), (0, (2, x0)), (1, (0, x1))]) 38 rfl rfl ?_
  refine s_goto (tgt := 20) 39 rfl rfl ?_
  refine PW.pick [1, 2, 0] rfl ?_
  exact h
theorem vX12_readExpression_52 {l : Launch} {G : pG} {bg : Nat × Nat} {n : Nat} {K : Int → Nat × Nat} {F E : Int → Int → Int} {Q : Option pV → pM → Prop} (x0 x1 s0 : Int) (h : PW l G 6 mX12_readExpression bg 20 [(0, (2, x0)), (1, (0, x1)), (2, (0, s0))] [] (n, K, F, E) Q) : PW l G 6 mX12_readExpression bg 52 [(0, (2, x0)), (1, (0, x1))] [(0, s0)] (n, K, F, E) Q := by
  refine s_goto (tgt := 72) 28 rfl rfl ?_
  refine s_istore_n (q := 73) (lv' := [(2, (0, s0)), (0, (2, x0)), (1, (0, x1))]) 38 rfl rfl ?_
  refine s_goto (tgt := 20) 39 rfl rfl ?_
  refine PW.pick [1, 2, 0] rfl ?_
  exact h
theorem vX12_readExpression_65 {l : Launch} {G : pG} {bg : Nat × Nat} {n : Nat} {K : Int → Nat × Nat} {F E : Int → Int → Int} {Q : Option pV → pM → Prop} (x0 x1 s0 : Int) (h : PW l G 6 mX12_readExpression bg 20 [(0, (2, x0)), (1, (0, x1)), (2, (0, s0))] [] (n, K, F, E) Q) : PW l G 6 mX12_readExpression bg 65 [(0, (2, x0)), (1, (0, x1))] [(0, s0)] (n, K, F, E) Q := by
  refine s_goto (tgt := 72) 35 rfl rfl ?_
  refine s_istore_n (q := 73) (lv' := [(2, (0, s0)), (0, (2, x0)), (1, (0, x1))]) 38 rfl rfl ?_
  refine s_goto (tgt := 20) 39 rfl rfl ?_
  refine PW.pick [1, 2, 0] rfl ?_
  exact h
theorem vX12_readExpression_72 {l : Launch} {G : pG} {bg : Nat × Nat} {n : Nat} {K : Int → Nat × Nat} {F E : Int → Int → Int} {Q : Option pV → pM → Prop} (x0 x1 s0 : Int) (h : PW l G 6 mX12_readExpression bg 20 [(0, (2, x0)), (1, (0, x1)), (2, (0, s0))] [] (n, K, F, E) Q) : PW l G 6 mX12_readExpression bg 72 [(0, (2, x0)), (1, (0, x1))] [(0, s0)] (n, K, F, E) Q := by
  refine s_istore_n (q := 73) (lv' := [(2, (0, s0)), (0, (2, x0)), (1, (0, x1))]) 38 rfl rfl ?_
  refine s_goto (tgt := 20) 39 rfl rfl ?_
  refine PW.pick [1, 2, 0] rfl ?_
  exact h
theorem vX12_readExpression_81 {l : Launch} {G : pG} {bg : Nat × Nat} {n : Nat} {K : Int → Nat × Nat} {F E : Int → Int → Int} {Q : Option pV → pM → Prop} (h : Q none (n, K, F, E)) : PW l G 6 mX12_readExpression bg 81 [] [] (n, K, F, E) Q := by
  exact s_vret 43 rfl rfl h
theorem vX12_beginText_0 {l : Launch} {G : pG} {bg : Nat × Nat} {n : Nat} {K : Int → Nat × Nat} {F E : Int → Int → Int} {Q : Option pV → pM → Prop} (x0 x1 : Int) (h : (K x0).1 = 12 ∧ (x1 = 0 ∨ x1 = 1) ∧ (∀ F1, F1 = pUp F x0 20 x1 → PC l G 2 mX12_begin (0, 0) [(2, x0)] (n, K, F1, E) (fun r μ => PW l G 3 mX12_beginText bg 9 [(0, (2, x0))] (r.toList ++ []) μ Q))) : PW l G 3 mX12_beginText bg 0 [(0, (2, x0)), (1, (0, x1))] [] (n, K, F, E) Q := by
  refine s_aload_n (q := 1) 0 0 rfl rfl ?_
  refine s_iload_n (q := 2) 1 1 rfl rfl ?_
  obtain ⟨c1, h⟩ := h
  obtain ⟨c2, h⟩ := h
  refine n_putf (q := 5) (jj := 20) 2 12 20 rfl kX12_329 c1 (Or.inr (Or.inr (Or.inl ⟨rfl, c2⟩))) ?_
  refine PW.nameF (fun F1 eF1 => ?_)
  replace h := h F1 eF1
  refine s_aload_n (q := 6) 3 0 rfl rfl ?_
  refine PW.pick [0] rfl ?_
  exact n_callV (N := mX12_begin) (as := []) (st := []) (q := 9) (d' := 2) 4 rfl uX12_begin kX12_380 rfl c1 h
theorem vX12_beginText_9 {l : Launch} {G : pG} {bg : Nat × Nat} {n : Nat} {K : Int → Nat × Nat} {F E : Int → Int → Int} {Q : Option pV → pM → Prop} (x0 : Int) (h : (K x0).1 = 12 ∧ (∀ F1, F1 = pUp F x0 21 0 → (∀ F2, F2 = pUp F1 x0 23 0 → (∀ F3, F3 = pUp F2 x0 26 0 → Q none (n, K, F3, E))))) : PW l G 3 mX12_beginText bg 9 [(0, (2, x0))] [] (n, K, F, E) Q := by
  refine s_aload_n (q := 10) 5 0 rfl rfl ?_
  refine s_iconst (q := 11) 6 rfl ?_
  obtain ⟨c1, h⟩ := h
  refine n_putf (q := 14) (jj := 21) 7 12 21 rfl kX12_383 c1 (Or.inl rfl) ?_
  refine PW.nameF (fun F1 eF1 => ?_)
  replace h := h F1 eF1
  refine s_aload_n (q := 15) 8 0 rfl rfl ?_
  refine s_iconst (q := 16) 9 rfl ?_
  refine n_putf (q := 19) (jj := 23) 10 12 23 rfl kX12_289 c1 (Or.inl rfl) ?_
  refine PW.nameF (fun F2 eF2 => ?_)
  replace h := h F2 eF2
  refine s_aload_n (q := 20) 11 0 rfl rfl ?_
  refine s_iconst (q := 21) 12 rfl ?_
  refine n_putf (q := 24) (jj := 26) 13 12 26 rfl kX12_320 c1 (Or.inl rfl) ?_
  refine PW.nameF (fun F3 eF3 => ?_)
  replace h := h F3 eF3
  exact s_vret 14 rfl rfl h
theorem vX12_endText_0 {l : Launch} {G : pG} {bg : Nat × Nat} {n : Nat} {K : Int → Nat × Nat} {F E : Int → Int → Int} {Q : Option pV → pM → Prop} (x0 : Int) (h : (K x0).1 = 12 ∧ ((¬ (F x0 19) = 0 → (∀ F1, F1 = pUp F x0 20 0 → (∀ F2, F2 = pUp F1 x0 13 0 → Q none (n, K, F2, E)))) ∧ ((F x0 19) = 0 → ((F x0 16 = 0 → (∀ F3, F3 = pUp F x0 20 0 → (∀ F4, F4 = pUp F3 x0 13 0 → Q none (n, K, F4, E)))) ∧ (¬ (F x0 16 = 0) → PC l G 2 mX12_must (0, 0) [(2, x0), (0, 0)] (n, K, F, E) (fun r μ => PW l G 3 mX12_endText bg 19 [(0, (2, x0))] (r.toList ++ []) μ Q)))))) : PW l G 3 mX12_endText bg 0 [(0, (2, x0))] [] (n, K, F, E) Q := by
  refine s_aload_n (q := 1) 0 0 rfl rfl ?_
  obtain ⟨c1, h⟩ := h
  refine n_getf (q := 4) (jj := 19) 1 12 19 rfl kX12_252 c1 ?_
  refine s_if_ne (q := 7) (tgt := 19) 2 rfl rfl (fun hb => ?_) (fun hb => ?_)
  · skip
    have b2 := hb
    replace h := h.1 hb
    refine s_aload_n (q := 20) 9 0 rfl rfl ?_
    refine s_iconst (q := 21) 10 rfl ?_
    refine n_putf (q := 24) (jj := 20) 11 12 20 rfl kX12_329 c1 (Or.inr (Or.inr (Or.inl ⟨rfl, (by decide)⟩))) ?_
    refine PW.nameF (fun F1 eF1 => ?_)
    replace h := h F1 eF1
    refine s_aload_n (q := 25) 12 0 rfl rfl ?_
    refine s_iconst (q := 26) 13 rfl ?_
    refine n_putf (q := 29) (jj := 13) 14 12 13 rfl kX12_236 c1 (Or.inl rfl) ?_
    refine PW.nameF (fun F2 eF2 => ?_)
    replace h := h F2 eF2
    exact s_vret 15 rfl rfl h
  · have hb := Classical.not_not.mp hb
    have b2 := hb
    replace h := h.2 hb
    refine s_aload_n (q := 8) 3 0 rfl rfl ?_
    refine n_getf (q := 11) (jj := 16) 4 12 16 rfl kX12_272 c1 ?_
    refine s_if_eq (q := 14) (tgt := 19) 5 rfl rfl (fun hb => ?_) (fun hb => ?_)
    · skip
      have b3 := hb
      replace h := h.1 hb
      refine s_aload_n (q := 20) 9 0 rfl rfl ?_
      refine s_iconst (q := 21) 10 rfl ?_
      refine n_putf (q := 24) (jj := 20) 11 12 20 rfl kX12_329 c1 (Or.inr (Or.inr (Or.inl ⟨rfl, (by decide)⟩))) ?_
      refine PW.nameF (fun F3 eF3 => ?_)
      replace h := h F3 eF3
      refine s_aload_n (q := 25) 12 0 rfl rfl ?_
      refine s_iconst (q := 26) 13 rfl ?_
      refine n_putf (q := 29) (jj := 13) 14 12 13 rfl kX12_236 c1 (Or.inl rfl) ?_
      refine PW.nameF (fun F4 eF4 => ?_)
      replace h := h F4 eF4
      exact s_vret 15 rfl rfl h
    · skip
      have b3 := hb
      replace h := h.2 hb
      refine s_aload_n (q := 15) 6 0 rfl rfl ?_
      refine s_iconst (q := 16) 7 rfl ?_
      refine PW.pick [0] rfl ?_
      exact n_callV (N := mX12_must) (as := [(0, 0)]) (st := []) (q := 19) (d' := 2) 8 rfl uX12_must kX12_285 rfl c1 h
theorem vX12_endText_19 {l : Launch} {G : pG} {bg : Nat × Nat} {n : Nat} {K : Int → Nat × Nat} {F E : Int → Int → Int} {Q : Option pV → pM → Prop} (x0 : Int) (h : (K x0).1 = 12 ∧ (∀ F1, F1 = pUp F x0 20 0 → (∀ F2, F2 = pUp F1 x0 13 0 → Q none (n, K, F2, E)))) : PW l G 3 mX12_endText bg 19 [(0, (2, x0))] [] (n, K, F, E) Q := by
  refine s_aload_n (q := 20) 9 0 rfl rfl ?_
  refine s_iconst (q := 21) 10 rfl ?_
  obtain ⟨c1, h⟩ := h
  refine n_putf (q := 24) (jj := 20) 11 12 20 rfl kX12_329 c1 (Or.inr (Or.inr (Or.inl ⟨rfl, (by decide)⟩))) ?_
  refine PW.nameF (fun F1 eF1 => ?_)
  replace h := h F1 eF1
  refine s_aload_n (q := 25) 12 0 rfl rfl ?_
  refine s_iconst (q := 26) 13 rfl ?_
  refine n_putf (q := 29) (jj := 13) 14 12 13 rfl kX12_236 c1 (Or.inl rfl) ?_
  refine PW.nameF (fun F2 eF2 => ?_)
  replace h := h F2 eF2
  exact s_vret 15 rfl rfl h
theorem vX12_readLaw_0 {l : Launch} {G : pG} {bg : Nat × Nat} {n : Nat} {K : Int → Nat × Nat} {F E : Int → Int → Int} {Q : Option pV → pM → Prop} (x0 : Int) (h : PW l G 7 mX12_readLaw bg 4 [(0, (2, x0)), (1, (0, (-1))), (2, (0, 0))] [] (n, K, F, E) Q) : PW l G 7 mX12_readLaw bg 0 [(0, (2, x0))] [] (n, K, F, E) Q := by
  refine s_iconst (q := 1) 0 rfl ?_
  refine s_istore_n (q := 2) (lv' := [(1, (0, (-1))), (0, (2, x0))]) 1 rfl rfl ?_
  refine s_iconst (q := 3) 2 rfl ?_
  refine s_istore_n (q := 4) (lv' := [(2, (0, 0)), (1, (0, (-1))), (0, (2, x0))]) 3 rfl rfl ?_
  refine PW.pick [2, 1, 0] rfl ?_
  exact h
theorem vX12_readLaw_4 {l : Launch} {G : pG} {bg : Nat × Nat} {n : Nat} {K : Int → Nat × Nat} {F E : Int → Int → Int} {Q : Option pV → pM → Prop} (x0 x1 x2 : Int) (h : ((2 ≤ x2 → ((x1 = (-1) → (K x0).1 = 12 ∧ PC l G 2 mX12_must (0, 0) [(2, x0), (0, 0)] (n, K, F, E) (fun r μ => PW l G 7 mX12_readLaw bg 57 [(0, (2, x0)), (1, (0, x1))] (r.toList ++ []) μ Q)) ∧ (¬ (x1 = (-1)) → (K x0).1 = 12 ∧ ((12 ≤ F x0 21 → PC l G 2 mX12_must (0, 0) [(2, x0), (0, 0)] (n, K, F, E) (fun r μ => PW l G 7 mX12_readLaw bg 57 [(0, (2, x0)), (1, (0, x1))] (r.toList ++ []) μ Q)) ∧ (¬ (12 ≤ F x0 21) → PC l G 2 mX12_must (0, 0) [(2, x0), (0, 1)] (n, K, F, E) (fun r μ => PW l G 7 mX12_readLaw bg 57 [(0, (2, x0)), (1, (0, x1))] (r.toList ++ []) μ Q)))))) ∧ (¬ (2 ≤ x2) → (K x0).1 = 12 ∧ (0 : Int) ≤ F x0 33 ∧ (K (F x0 33)).1 = 21 ∧ ((0 : Int) ≤ x2 ∧ x2 < ((K (F x0 33)).2 : Int)) ∧ ((¬ (F x0 16 = 1 ∧ F x0 17 = E (F x0 33) x2) → (-2147483648 ≤ x2 + 1 ∧ x2 + 1 < 2147483648) ∧ PW l G 7 mX12_readLaw bg 4 [(0, (2, x0)), (1, (0, x1)), (2, (0, x2 + 1))] [] (n, K, F, E) Q) ∧ (F x0 16 = 1 ∧ F x0 17 = E (F x0 33) x2 → (-2147483648 ≤ x2 + 1 ∧ x2 + 1 < 2147483648) ∧ PW l G 7 mX12_readLaw bg 4 [(0, (2, x0)), (1, (0, x2)), (2, (0, x2 + 1))] [] (n, K, F, E) Q))))) : PW l G 7 mX12_readLaw bg 4 [(0, (2, x0)), (1, (0, x1)), (2, (0, x2))] [] (n, K, F, E) Q := by
  refine s_iload_n (q := 5) 4 2 rfl rfl ?_
  refine s_iconst (q := 6) 5 rfl ?_
  refine s_icmp_ge (q := 9) (tgt := 34) 6 rfl rfl (fun hb => ?_) (fun hb => ?_)
  · skip
    have b1 := hb
    replace h := h.1 hb
    refine s_aload_n (q := 35) 20 0 rfl rfl ?_
    refine s_iload_n (q := 36) 21 1 rfl rfl ?_
    refine s_iconst (q := 37) 22 rfl ?_
    refine s_icmp_eq (q := 40) (tgt := 53) 23 rfl rfl (fun hb => ?_) (fun hb => ?_)
    · skip
      have b2 := hb
      replace h := h.1 hb
      refine s_iconst (q := 54) 30 rfl ?_
      obtain ⟨c3, h⟩ := h
      refine PW.pick [0, 1] rfl ?_
      exact n_callV (N := mX12_must) (as := [(0, 0)]) (st := []) (q := 57) (d' := 2) 31 rfl uX12_must kX12_285 rfl c3 h
    · skip
      have b2 := hb
      replace h := h.2 hb
      refine s_aload_n (q := 41) 24 0 rfl rfl ?_
      obtain ⟨c4, h⟩ := h
      refine n_getf (q := 44) (jj := 21) 25 12 21 rfl kX12_383 c4 ?_
      refine s_bipush (q := 46) 26 rfl ?_
      refine s_icmp_ge (q := 49) (tgt := 53) 27 rfl rfl (fun hb => ?_) (fun hb => ?_)
      · skip
        have b5 := hb
        replace h := h.1 hb
        refine s_iconst (q := 54) 30 rfl ?_
        refine PW.pick [0, 1] rfl ?_
        exact n_callV (N := mX12_must) (as := [(0, 0)]) (st := []) (q := 57) (d' := 2) 31 rfl uX12_must kX12_285 rfl c4 h
      · skip
        have b5 := hb
        replace h := h.2 hb
        refine s_iconst (q := 50) 28 rfl ?_
        refine s_goto (tgt := 54) 29 rfl rfl ?_
        refine PW.pick [0, 1] rfl ?_
        exact n_callV (N := mX12_must) (as := [(0, 1)]) (st := []) (q := 57) (d' := 2) 31 rfl uX12_must kX12_285 rfl c4 h
  · skip
    have b1 := hb
    replace h := h.2 hb
    refine s_aload_n (q := 10) 7 0 rfl rfl ?_
    refine s_aload_n (q := 11) 8 0 rfl rfl ?_
    obtain ⟨c6, h⟩ := h
    refine n_getf (q := 14) (jj := 33) 9 12 33 rfl kX12_94 c6 ?_
    refine s_iload_n (q := 15) 10 2 rfl rfl ?_
    obtain ⟨c7, h⟩ := h
    obtain ⟨c8, h⟩ := h
    obtain ⟨c9, h⟩ := h
    refine n_lald (q := 16) 11 rfl c7 c8 c9 ?_
    refine n_callV (N := mX12_isWord) (as := [(1, E (F x0 33) x2)]) (st := []) (q := 19) (d' := 0) 12 rfl uX12_isWord kX12_310 rfl c6 (pX12_isWord c6 ?_)
    show PW l G 7 mX12_readLaw bg 19 [(0, (2, x0)), (1, (0, x1)), (2, (0, x2))] [(0, bI (F x0 16 = 1 ∧ F x0 17 = E (F x0 33) x2))] (n, K, F, E) Q
    refine s_if_eq (q := 22) (tgt := 26) 13 rfl rfl (fun hb => ?_) (fun hb => ?_)
    · have hb := bI_f hb
      have b10 := hb
      replace h := h.1 hb
      refine s_iload_n (q := 27) 16 1 rfl rfl ?_
      refine s_istore_n (q := 28) (lv' := [(1, (0, x1)), (0, (2, x0)), (2, (0, x2))]) 17 rfl rfl ?_
      obtain ⟨c11, h⟩ := h
      refine n_iinc (q := 31) (lv' := [(2, (0, x2 + 1)), (1, (0, x1)), (0, (2, x0))]) 18 2 rfl rfl c11 rfl ?_
      refine s_goto (tgt := 4) 19 rfl rfl ?_
      refine PW.pick [2, 1, 0] rfl ?_
      exact h
    · have hb := bI_t hb
      have b10 := hb
      replace h := h.2 hb
      refine s_iload_n (q := 23) 14 2 rfl rfl ?_
      refine s_goto (tgt := 27) 15 rfl rfl ?_
      refine s_istore_n (q := 28) (lv' := [(1, (0, x2)), (0, (2, x0)), (2, (0, x2))]) 17 rfl rfl ?_
      obtain ⟨c12, h⟩ := h
      refine n_iinc (q := 31) (lv' := [(2, (0, x2 + 1)), (1, (0, x2)), (0, (2, x0))]) 18 2 rfl rfl c12 rfl ?_
      refine s_goto (tgt := 4) 19 rfl rfl ?_
      refine PW.pick [2, 1, 0] rfl ?_
      exact h
theorem vX12_readLaw_57 {l : Launch} {G : pG} {bg : Nat × Nat} {n : Nat} {K : Int → Nat × Nat} {F E : Int → Int → Int} {Q : Option pV → pM → Prop} (x0 x1 : Int) (h : (K x0).1 = 12 ∧ ((F x0 19 = 0 → (-2147483648 ≤ 8 * (F x0 21) ∧ 8 * (F x0 21) < 2147483648) ∧ PW l G 7 mX12_readLaw bg 75 [(0, (2, x0)), (1, (0, x1)), (2, (0, 8 * (F x0 21))), (3, (0, 0))] [] (n, K, F, E) Q) ∧ (¬ (F x0 19 = 0) → Q none (n, K, F, E)))) : PW l G 7 mX12_readLaw bg 57 [(0, (2, x0)), (1, (0, x1))] [] (n, K, F, E) Q := by
  refine s_aload_n (q := 58) 32 0 rfl rfl ?_
  obtain ⟨c1, h⟩ := h
  refine n_getf (q := 61) (jj := 19) 33 12 19 rfl kX12_252 c1 ?_
  refine s_if_eq (q := 64) (tgt := 65) 34 rfl rfl (fun hb => ?_) (fun hb => ?_)
  · skip
    have b2 := hb
    replace h := h.1 hb
    refine s_bipush (q := 67) 36 rfl ?_
    refine s_aload_n (q := 68) 37 0 rfl rfl ?_
    refine n_getf (q := 71) (jj := 21) 38 12 21 rfl kX12_383 c1 ?_
    obtain ⟨c3, h⟩ := h
    refine n_imul (q := 72) 39 rfl c3 ?_
    refine s_istore_n (q := 73) (lv' := [(2, (0, 8 * (F x0 21))), (0, (2, x0)), (1, (0, x1))]) 40 rfl rfl ?_
    refine s_iconst (q := 74) 41 rfl ?_
    refine s_istore_n (q := 75) (lv' := [(3, (0, 0)), (2, (0, 8 * (F x0 21))), (0, (2, x0)), (1, (0, x1))]) 42 rfl rfl ?_
    refine PW.pick [2, 3, 1, 0] rfl ?_
    exact h
  · skip
    have b2 := hb
    replace h := h.2 hb
    exact s_vret 35 rfl rfl h
theorem vX12_readLaw_75 {l : Launch} {G : pG} {bg : Nat × Nat} {n : Nat} {K : Int → Nat × Nat} {F E : Int → Int → Int} {Q : Option pV → pM → Prop} (x0 x1 x2 x3 : Int) (h : ((8 ≤ x3 → (K x0).1 = 12 ∧ (0 : Int) ≤ F x0 22 ∧ (K (F x0 22)).1 = 20 ∧ ((0 : Int) ≤ x2 ∧ x2 < ((K (F x0 22)).2 : Int)) ∧ (∀ E1, E1 = pUp E (F x0 22) x2 x1 → (-2147483648 ≤ (F x0 21) + 1 ∧ (F x0 21) + 1 < 2147483648) ∧ (∀ F2, F2 = pUp F x0 21 ((F x0 21) + 1) → (-2147483648 ≤ x2 + 3 ∧ x2 + 3 < 2147483648) ∧ ((0 : Int) ≤ x2 + 3 ∧ x2 + 3 < ((K (F x0 22)).2 : Int)) ∧ (∀ E3, E3 = pUp E1 (F x0 22) (x2 + 3) (F x0 23) → ((¬ x1 = 0 → (-2147483648 ≤ x2 + 4 ∧ x2 + 4 < 2147483648) ∧ ((0 : Int) ≤ x2 + 4 ∧ x2 + 4 < ((K (F x0 22)).2 : Int)) ∧ (∀ E4, E4 = pUp E3 (F x0 22) (x2 + 4) (F x0 23) → (-2147483648 ≤ x2 + 5 ∧ x2 + 5 < 2147483648) ∧ ((0 : Int) ≤ x2 + 5 ∧ x2 + 5 < ((K (F x0 22)).2 : Int)) ∧ (∀ E5, E5 = pUp E4 (F x0 22) (x2 + 5) (F x0 23) → ((¬ (F x0 19) = 0 → (-2147483648 ≤ x2 + 6 ∧ x2 + 6 < 2147483648) ∧ ((0 : Int) ≤ x2 + 6 ∧ x2 + 6 < ((K (F x0 22)).2 : Int)) ∧ (∀ E6, E6 = pUp E5 (F x0 22) (x2 + 6) (F x0 23) → Q none (n, K, F2, E6))) ∧ ((F x0 19) = 0 → ((¬ (F2 x0 16 = 1 ∧ F2 x0 17 = 294) → (-2147483648 ≤ x2 + 6 ∧ x2 + 6 < 2147483648) ∧ ((0 : Int) ≤ x2 + 6 ∧ x2 + 6 < ((K (F x0 22)).2 : Int)) ∧ (∀ E7, E7 = pUp E5 (F x0 22) (x2 + 6) (F x0 23) → Q none (n, K, F2, E7))) ∧ (F2 x0 16 = 1 ∧ F2 x0 17 = 294 → PC l G 1 mX12_next (0, 0) [(2, x0)] (n, K, F2, E5) (fun r μ => PW l G 7 mX12_readLaw bg 179 [(0, (2, x0)), (2, (0, x2))] (r.toList ++ []) μ Q)))))))) ∧ (x1 = 0 → PC l G 6 mX12_readExpression (0, 0) [(2, x0), (0, 0)] (n, K, F2, E3) (fun r μ => PW l G 7 mX12_readLaw bg 134 [(0, (2, x0)), (2, (0, x2))] (r.toList ++ []) μ Q))))))) ∧ (¬ (8 ≤ x3) → (K x0).1 = 12 ∧ (-2147483648 ≤ x2 + x3 ∧ x2 + x3 < 2147483648) ∧ (0 : Int) ≤ F x0 22 ∧ (K (F x0 22)).1 = 20 ∧ ((0 : Int) ≤ x2 + x3 ∧ x2 + x3 < ((K (F x0 22)).2 : Int)) ∧ (∀ E8, E8 = pUp E (F x0 22) (x2 + x3) 0 → (-2147483648 ≤ x3 + 1 ∧ x3 + 1 < 2147483648) ∧ PW l G 7 mX12_readLaw bg 75 [(0, (2, x0)), (1, (0, x1)), (2, (0, x2)), (3, (0, x3 + 1))] [] (n, K, F, E8) Q)))) : PW l G 7 mX12_readLaw bg 75 [(0, (2, x0)), (1, (0, x1)), (2, (0, x2)), (3, (0, x3))] [] (n, K, F, E) Q := by
  refine s_iload_n (q := 76) 43 3 rfl rfl ?_
  refine s_bipush (q := 78) 44 rfl ?_
  refine s_icmp_ge (q := 81) (tgt := 96) 45 rfl rfl (fun hb => ?_) (fun hb => ?_)
  · skip
    have b1 := hb
    replace h := h.1 hb
    refine s_aload_n (q := 97) 55 0 rfl rfl ?_
    obtain ⟨c2, h⟩ := h
    refine n_getf (q := 100) (jj := 22) 56 12 22 rfl kX12_42 c2 ?_
    refine s_iload_n (q := 101) 57 2 rfl rfl ?_
    refine s_iload_n (q := 102) 58 1 rfl rfl ?_
    obtain ⟨c3, h⟩ := h
    obtain ⟨c4, h⟩ := h
    obtain ⟨c5, h⟩ := h
    refine n_iast (q := 103) 59 rfl c3 c4 c5 ?_
    refine PW.nameE (fun E1 eE1 => ?_)
    replace h := h E1 eE1
    refine s_aload_n (q := 104) 60 0 rfl rfl ?_
    refine s_dup (q := 105) 61 rfl ?_
    refine n_getf (q := 108) (jj := 21) 62 12 21 rfl kX12_383 c2 ?_
    refine s_iconst (q := 109) 63 rfl ?_
    obtain ⟨c6, h⟩ := h
    refine n_iadd (q := 110) 64 rfl c6 ?_
    refine n_putf (q := 113) (jj := 21) 65 12 21 rfl kX12_383 c2 (Or.inl rfl) ?_
    refine PW.nameF (fun F2 eF2 => ?_)
    replace h := h F2 eF2
    refine s_aload_n (q := 114) 66 0 rfl rfl ?_
    refine n_getf (q := 117) (jj := 22) 67 12 22 rfl kX12_42 c2 ?_
    refine PW.top (b := F x0 22) (by exact (congrFun (congrFun eF2 _) _).trans (pUp_k (by decide))) ?_
    refine s_iload_n (q := 118) 68 2 rfl rfl ?_
    refine s_iconst (q := 119) 69 rfl ?_
    obtain ⟨c7, h⟩ := h
    refine n_iadd (q := 120) 70 rfl c7 ?_
    refine s_aload_n (q := 121) 71 0 rfl rfl ?_
    refine n_getf (q := 124) (jj := 23) 72 12 23 rfl kX12_289 c2 ?_
    refine PW.top (b := F x0 23) (by exact (congrFun (congrFun eF2 _) _).trans (pUp_k (by decide))) ?_
    obtain ⟨c8, h⟩ := h
    refine n_iast (q := 125) 73 rfl c3 c4 c8 ?_
    refine PW.nameE (fun E3 eE3 => ?_)
    replace h := h E3 eE3
    refine s_iload_n (q := 126) 74 1 rfl rfl ?_
    refine s_if_ne (q := 129) (tgt := 134) 75 rfl rfl (fun hb => ?_) (fun hb => ?_)
    · skip
      have b9 := hb
      replace h := h.1 hb
      refine s_aload_n (q := 135) 79 0 rfl rfl ?_
      refine n_getf (q := 138) (jj := 22) 80 12 22 rfl kX12_42 c2 ?_
      refine PW.top (b := F x0 22) (by exact (congrFun (congrFun eF2 _) _).trans (pUp_k (by decide))) ?_
      refine s_iload_n (q := 139) 81 2 rfl rfl ?_
      refine s_iconst (q := 140) 82 rfl ?_
      obtain ⟨c10, h⟩ := h
      refine n_iadd (q := 141) 83 rfl c10 ?_
      refine s_aload_n (q := 142) 84 0 rfl rfl ?_
      refine n_getf (q := 145) (jj := 23) 85 12 23 rfl kX12_289 c2 ?_
      refine PW.top (b := F x0 23) (by exact (congrFun (congrFun eF2 _) _).trans (pUp_k (by decide))) ?_
      obtain ⟨c11, h⟩ := h
      refine n_iast (q := 146) 86 rfl c3 c4 c11 ?_
      refine PW.nameE (fun E4 eE4 => ?_)
      replace h := h E4 eE4
      refine s_aload_n (q := 147) 87 0 rfl rfl ?_
      refine n_getf (q := 150) (jj := 22) 88 12 22 rfl kX12_42 c2 ?_
      refine PW.top (b := F x0 22) (by exact (congrFun (congrFun eF2 _) _).trans (pUp_k (by decide))) ?_
      refine s_iload_n (q := 151) 89 2 rfl rfl ?_
      refine s_iconst (q := 152) 90 rfl ?_
      obtain ⟨c12, h⟩ := h
      refine n_iadd (q := 153) 91 rfl c12 ?_
      refine s_aload_n (q := 154) 92 0 rfl rfl ?_
      refine n_getf (q := 157) (jj := 23) 93 12 23 rfl kX12_289 c2 ?_
      refine PW.top (b := F x0 23) (by exact (congrFun (congrFun eF2 _) _).trans (pUp_k (by decide))) ?_
      obtain ⟨c13, h⟩ := h
      refine n_iast (q := 158) 94 rfl c3 c4 c13 ?_
      refine PW.nameE (fun E5 eE5 => ?_)
      replace h := h E5 eE5
      refine s_aload_n (q := 159) 95 0 rfl rfl ?_
      refine n_getf (q := 162) (jj := 19) 96 12 19 rfl kX12_252 c2 ?_
      refine PW.top (b := F x0 19) (by exact (congrFun (congrFun eF2 _) _).trans (pUp_k (by decide))) ?_
      refine s_if_ne (q := 165) (tgt := 184) 97 rfl rfl (fun hb => ?_) (fun hb => ?_)
      · skip
        have b14 := hb
        replace h := h.1 hb
        refine s_aload_n (q := 185) 107 0 rfl rfl ?_
        refine n_getf (q := 188) (jj := 22) 108 12 22 rfl kX12_42 c2 ?_
        refine PW.top (b := F x0 22) (by exact (congrFun (congrFun eF2 _) _).trans (pUp_k (by decide))) ?_
        refine s_iload_n (q := 189) 109 2 rfl rfl ?_
        refine s_bipush (q := 191) 110 rfl ?_
        obtain ⟨c15, h⟩ := h
        refine n_iadd (q := 192) 111 rfl c15 ?_
        refine s_aload_n (q := 193) 112 0 rfl rfl ?_
        refine n_getf (q := 196) (jj := 23) 113 12 23 rfl kX12_289 c2 ?_
        refine PW.top (b := F x0 23) (by exact (congrFun (congrFun eF2 _) _).trans (pUp_k (by decide))) ?_
        obtain ⟨c16, h⟩ := h
        refine n_iast (q := 197) 114 rfl c3 c4 c16 ?_
        refine PW.nameE (fun E6 eE6 => ?_)
        replace h := h E6 eE6
        exact s_vret 115 rfl rfl h
      · have hb := Classical.not_not.mp hb
        have b14 := hb
        replace h := h.2 hb
        refine s_aload_n (q := 166) 98 0 rfl rfl ?_
        refine s_ldc2 (q := 169) (x := 294) 99 rfl kX12_389 ?_
        refine n_callV (N := mX12_isWord) (as := [(1, 294)]) (st := []) (q := 172) (d' := 0) 100 rfl uX12_isWord kX12_310 rfl c2 (pX12_isWord c2 ?_)
        show PW l G 7 mX12_readLaw bg 172 [(0, (2, x0)), (1, (0, x1)), (2, (0, x2)), (3, (0, x3))] [(0, bI (F2 x0 16 = 1 ∧ F2 x0 17 = 294))] (n, K, F2, E5) Q
        refine s_if_eq (q := 175) (tgt := 184) 101 rfl rfl (fun hb => ?_) (fun hb => ?_)
        · have hb := bI_f hb
          have b17 := hb
          replace h := h.1 hb
          refine s_aload_n (q := 185) 107 0 rfl rfl ?_
          refine n_getf (q := 188) (jj := 22) 108 12 22 rfl kX12_42 c2 ?_
          refine PW.top (b := F x0 22) (by exact (congrFun (congrFun eF2 _) _).trans (pUp_k (by decide))) ?_
          refine s_iload_n (q := 189) 109 2 rfl rfl ?_
          refine s_bipush (q := 191) 110 rfl ?_
          obtain ⟨c18, h⟩ := h
          refine n_iadd (q := 192) 111 rfl c18 ?_
          refine s_aload_n (q := 193) 112 0 rfl rfl ?_
          refine n_getf (q := 196) (jj := 23) 113 12 23 rfl kX12_289 c2 ?_
          refine PW.top (b := F x0 23) (by exact (congrFun (congrFun eF2 _) _).trans (pUp_k (by decide))) ?_
          obtain ⟨c19, h⟩ := h
          refine n_iast (q := 197) 114 rfl c3 c4 c19 ?_
          refine PW.nameE (fun E7 eE7 => ?_)
          replace h := h E7 eE7
          exact s_vret 115 rfl rfl h
        · have hb := bI_t hb
          have b17 := hb
          replace h := h.2 hb
          refine s_aload_n (q := 176) 102 0 rfl rfl ?_
          refine PW.pick [0, 2] rfl ?_
          exact n_callV (N := mX12_next) (as := []) (st := []) (q := 179) (d' := 1) 103 rfl uX12_next kX12_256 rfl c2 h
    · have hb := Classical.not_not.mp hb
      have b9 := hb
      replace h := h.2 hb
      refine s_aload_n (q := 130) 76 0 rfl rfl ?_
      refine s_iconst (q := 131) 77 rfl ?_
      refine PW.pick [0, 2] rfl ?_
      exact n_callV (N := mX12_readExpression) (as := [(0, 0)]) (st := []) (q := 134) (d' := 6) 78 rfl uX12_readExpression kX12_386 rfl c2 h
  · skip
    have b1 := hb
    replace h := h.2 hb
    refine s_aload_n (q := 82) 46 0 rfl rfl ?_
    obtain ⟨c20, h⟩ := h
    refine n_getf (q := 85) (jj := 22) 47 12 22 rfl kX12_42 c20 ?_
    refine s_iload_n (q := 86) 48 2 rfl rfl ?_
    refine s_iload_n (q := 87) 49 3 rfl rfl ?_
    obtain ⟨c21, h⟩ := h
    refine n_iadd (q := 88) 50 rfl c21 ?_
    refine s_iconst (q := 89) 51 rfl ?_
    obtain ⟨c22, h⟩ := h
    obtain ⟨c23, h⟩ := h
    obtain ⟨c24, h⟩ := h
    refine n_iast (q := 90) 52 rfl c22 c23 c24 ?_
    refine PW.nameE (fun E8 eE8 => ?_)
    replace h := h E8 eE8
    obtain ⟨c25, h⟩ := h
    refine n_iinc (q := 93) (lv' := [(3, (0, x3 + 1)), (0, (2, x0)), (1, (0, x1)), (2, (0, x2))]) 53 3 rfl rfl c25 rfl ?_
    refine s_goto (tgt := 75) 54 rfl rfl ?_
    refine PW.pick [1, 2, 3, 0] rfl ?_
    exact h
theorem vX12_readLaw_134 {l : Launch} {G : pG} {bg : Nat × Nat} {n : Nat} {K : Int → Nat × Nat} {F E : Int → Int → Int} {Q : Option pV → pM → Prop} (x0 x2 : Int) (h : (K x0).1 = 12 ∧ (-2147483648 ≤ x2 + 4 ∧ x2 + 4 < 2147483648) ∧ (0 : Int) ≤ F x0 22 ∧ (K (F x0 22)).1 = 20 ∧ ((0 : Int) ≤ x2 + 4 ∧ x2 + 4 < ((K (F x0 22)).2 : Int)) ∧ (∀ E1, E1 = pUp E (F x0 22) (x2 + 4) (F x0 23) → (-2147483648 ≤ x2 + 5 ∧ x2 + 5 < 2147483648) ∧ ((0 : Int) ≤ x2 + 5 ∧ x2 + 5 < ((K (F x0 22)).2 : Int)) ∧ (∀ E2, E2 = pUp E1 (F x0 22) (x2 + 5) (F x0 23) → ((¬ (F x0 19) = 0 → (-2147483648 ≤ x2 + 6 ∧ x2 + 6 < 2147483648) ∧ ((0 : Int) ≤ x2 + 6 ∧ x2 + 6 < ((K (F x0 22)).2 : Int)) ∧ (∀ E3, E3 = pUp E2 (F x0 22) (x2 + 6) (F x0 23) → Q none (n, K, F, E3))) ∧ ((F x0 19) = 0 → ((¬ (F x0 16 = 1 ∧ F x0 17 = 294) → (-2147483648 ≤ x2 + 6 ∧ x2 + 6 < 2147483648) ∧ ((0 : Int) ≤ x2 + 6 ∧ x2 + 6 < ((K (F x0 22)).2 : Int)) ∧ (∀ E4, E4 = pUp E2 (F x0 22) (x2 + 6) (F x0 23) → Q none (n, K, F, E4))) ∧ (F x0 16 = 1 ∧ F x0 17 = 294 → PC l G 1 mX12_next (0, 0) [(2, x0)] (n, K, F, E2) (fun r μ => PW l G 7 mX12_readLaw bg 179 [(0, (2, x0)), (2, (0, x2))] (r.toList ++ []) μ Q)))))))) : PW l G 7 mX12_readLaw bg 134 [(0, (2, x0)), (2, (0, x2))] [] (n, K, F, E) Q := by
  refine s_aload_n (q := 135) 79 0 rfl rfl ?_
  obtain ⟨c1, h⟩ := h
  refine n_getf (q := 138) (jj := 22) 80 12 22 rfl kX12_42 c1 ?_
  refine s_iload_n (q := 139) 81 1 rfl rfl ?_
  refine s_iconst (q := 140) 82 rfl ?_
  obtain ⟨c2, h⟩ := h
  refine n_iadd (q := 141) 83 rfl c2 ?_
  refine s_aload_n (q := 142) 84 0 rfl rfl ?_
  refine n_getf (q := 145) (jj := 23) 85 12 23 rfl kX12_289 c1 ?_
  obtain ⟨c3, h⟩ := h
  obtain ⟨c4, h⟩ := h
  obtain ⟨c5, h⟩ := h
  refine n_iast (q := 146) 86 rfl c3 c4 c5 ?_
  refine PW.nameE (fun E1 eE1 => ?_)
  replace h := h E1 eE1
  refine s_aload_n (q := 147) 87 0 rfl rfl ?_
  refine n_getf (q := 150) (jj := 22) 88 12 22 rfl kX12_42 c1 ?_
  refine s_iload_n (q := 151) 89 1 rfl rfl ?_
  refine s_iconst (q := 152) 90 rfl ?_
  obtain ⟨c6, h⟩ := h
  refine n_iadd (q := 153) 91 rfl c6 ?_
  refine s_aload_n (q := 154) 92 0 rfl rfl ?_
  refine n_getf (q := 157) (jj := 23) 93 12 23 rfl kX12_289 c1 ?_
  obtain ⟨c7, h⟩ := h
  refine n_iast (q := 158) 94 rfl c3 c4 c7 ?_
  refine PW.nameE (fun E2 eE2 => ?_)
  replace h := h E2 eE2
  refine s_aload_n (q := 159) 95 0 rfl rfl ?_
  refine n_getf (q := 162) (jj := 19) 96 12 19 rfl kX12_252 c1 ?_
  refine s_if_ne (q := 165) (tgt := 184) 97 rfl rfl (fun hb => ?_) (fun hb => ?_)
  · skip
    have b8 := hb
    replace h := h.1 hb
    refine s_aload_n (q := 185) 107 0 rfl rfl ?_
    refine n_getf (q := 188) (jj := 22) 108 12 22 rfl kX12_42 c1 ?_
    refine s_iload_n (q := 189) 109 1 rfl rfl ?_
    refine s_bipush (q := 191) 110 rfl ?_
    obtain ⟨c9, h⟩ := h
    refine n_iadd (q := 192) 111 rfl c9 ?_
    refine s_aload_n (q := 193) 112 0 rfl rfl ?_
    refine n_getf (q := 196) (jj := 23) 113 12 23 rfl kX12_289 c1 ?_
    obtain ⟨c10, h⟩ := h
    refine n_iast (q := 197) 114 rfl c3 c4 c10 ?_
    refine PW.nameE (fun E3 eE3 => ?_)
    replace h := h E3 eE3
    exact s_vret 115 rfl rfl h
  · have hb := Classical.not_not.mp hb
    have b8 := hb
    replace h := h.2 hb
    refine s_aload_n (q := 166) 98 0 rfl rfl ?_
    refine s_ldc2 (q := 169) (x := 294) 99 rfl kX12_389 ?_
    refine n_callV (N := mX12_isWord) (as := [(1, 294)]) (st := []) (q := 172) (d' := 0) 100 rfl uX12_isWord kX12_310 rfl c1 (pX12_isWord c1 ?_)
    show PW l G 7 mX12_readLaw bg 172 [(0, (2, x0)), (2, (0, x2))] [(0, bI (F x0 16 = 1 ∧ F x0 17 = 294))] (n, K, F, E2) Q
    refine s_if_eq (q := 175) (tgt := 184) 101 rfl rfl (fun hb => ?_) (fun hb => ?_)
    · have hb := bI_f hb
      have b11 := hb
      replace h := h.1 hb
      refine s_aload_n (q := 185) 107 0 rfl rfl ?_
      refine n_getf (q := 188) (jj := 22) 108 12 22 rfl kX12_42 c1 ?_
      refine s_iload_n (q := 189) 109 1 rfl rfl ?_
      refine s_bipush (q := 191) 110 rfl ?_
      obtain ⟨c12, h⟩ := h
      refine n_iadd (q := 192) 111 rfl c12 ?_
      refine s_aload_n (q := 193) 112 0 rfl rfl ?_
      refine n_getf (q := 196) (jj := 23) 113 12 23 rfl kX12_289 c1 ?_
      obtain ⟨c13, h⟩ := h
      refine n_iast (q := 197) 114 rfl c3 c4 c13 ?_
      refine PW.nameE (fun E4 eE4 => ?_)
      replace h := h E4 eE4
      exact s_vret 115 rfl rfl h
    · have hb := bI_t hb
      have b11 := hb
      replace h := h.2 hb
      refine s_aload_n (q := 176) 102 0 rfl rfl ?_
      refine PW.pick [0, 1] rfl ?_
      exact n_callV (N := mX12_next) (as := []) (st := []) (q := 179) (d' := 1) 103 rfl uX12_next kX12_256 rfl c1 h
theorem vX12_readLaw_179 {l : Launch} {G : pG} {bg : Nat × Nat} {n : Nat} {K : Int → Nat × Nat} {F E : Int → Int → Int} {Q : Option pV → pM → Prop} (x0 x2 : Int) (h : (K x0).1 = 12 ∧ PC l G 6 mX12_readExpression (0, 0) [(2, x0), (0, 1)] (n, K, F, E) (fun r μ => PW l G 7 mX12_readLaw bg 184 [(0, (2, x0)), (2, (0, x2))] (r.toList ++ []) μ Q)) : PW l G 7 mX12_readLaw bg 179 [(0, (2, x0)), (2, (0, x2))] [] (n, K, F, E) Q := by
  refine s_aload_n (q := 180) 104 0 rfl rfl ?_
  refine s_iconst (q := 181) 105 rfl ?_
  obtain ⟨c1, h⟩ := h
  refine PW.pick [0, 1] rfl ?_
  exact n_callV (N := mX12_readExpression) (as := [(0, 1)]) (st := []) (q := 184) (d' := 6) 106 rfl uX12_readExpression kX12_386 rfl c1 h
theorem vX12_readLaw_184 {l : Launch} {G : pG} {bg : Nat × Nat} {n : Nat} {K : Int → Nat × Nat} {F E : Int → Int → Int} {Q : Option pV → pM → Prop} (x0 x2 : Int) (h : (K x0).1 = 12 ∧ (-2147483648 ≤ x2 + 6 ∧ x2 + 6 < 2147483648) ∧ (0 : Int) ≤ F x0 22 ∧ (K (F x0 22)).1 = 20 ∧ ((0 : Int) ≤ x2 + 6 ∧ x2 + 6 < ((K (F x0 22)).2 : Int)) ∧ (∀ E1, E1 = pUp E (F x0 22) (x2 + 6) (F x0 23) → Q none (n, K, F, E1))) : PW l G 7 mX12_readLaw bg 184 [(0, (2, x0)), (2, (0, x2))] [] (n, K, F, E) Q := by
  refine s_aload_n (q := 185) 107 0 rfl rfl ?_
  obtain ⟨c1, h⟩ := h
  refine n_getf (q := 188) (jj := 22) 108 12 22 rfl kX12_42 c1 ?_
  refine s_iload_n (q := 189) 109 1 rfl rfl ?_
  refine s_bipush (q := 191) 110 rfl ?_
  obtain ⟨c2, h⟩ := h
  refine n_iadd (q := 192) 111 rfl c2 ?_
  refine s_aload_n (q := 193) 112 0 rfl rfl ?_
  refine n_getf (q := 196) (jj := 23) 113 12 23 rfl kX12_289 c1 ?_
  obtain ⟨c3, h⟩ := h
  obtain ⟨c4, h⟩ := h
  obtain ⟨c5, h⟩ := h
  refine n_iast (q := 197) 114 rfl c3 c4 c5 ?_
  refine PW.nameE (fun E1 eE1 => ?_)
  replace h := h E1 eE1
  exact s_vret 115 rfl rfl h
theorem vX12_law_0 {l : Launch} {G : pG} {bg : Nat × Nat} {n : Nat} {K : Int → Nat × Nat} {F E : Int → Int → Int} {Q : Option pV → pM → Prop} (x0 : Int) (h : (K x0).1 = 12 ∧ (∀ F1, F1 = pUp F x0 0 0 → (K (F x0 3)).1 = 20 ∧ ((0 : Int) ≤ 1 ∧ 1 < ((K (F x0 3)).2 : Int)) ∧ ((¬ (E (F x0 3) 1) = 6 → PC l G 3 mX12_beginText (0, 0) [(2, x0), (0, 0)] (n, K, F1, E) (fun r μ => PW l G 8 mX12_law bg 33 [(0, (2, x0))] (r.toList ++ []) μ Q)) ∧ ((E (F x0 3) 1) = 6 → (∀ F2, F2 = pUp F1 x0 13 0 → PC l G 0 mX12_tell (0, 0) [(2, x0), (0, (-5))] (n, K, F2, E) (fun r μ => PW l G 8 mX12_law bg 27 [] (r.toList ++ []) μ Q)))))) : PW l G 8 mX12_law bg 0 [(0, (2, x0))] [] (n, K, F, E) Q := by
  refine s_aload_n (q := 1) 0 0 rfl rfl ?_
  refine s_iconst (q := 2) 1 rfl ?_
  obtain ⟨c1, h⟩ := h
  refine n_putf (q := 5) (jj := 0) 2 12 0 rfl kX12_174 c1 (Or.inl rfl) ?_
  refine PW.nameF (fun F1 eF1 => ?_)
  replace h := h F1 eF1
  refine s_aload_n (q := 6) 3 0 rfl rfl ?_
  refine n_getf (q := 9) (jj := 3) 4 12 3 rfl kX12_13 c1 ?_
  refine PW.top (b := F x0 3) (by exact (congrFun (congrFun eF1 _) _).trans (pUp_k (by decide))) ?_
  refine s_iconst (q := 10) 5 rfl ?_
  obtain ⟨c2, h⟩ := h
  obtain ⟨c3, h⟩ := h
  refine n_iald (q := 11) 6 rfl c2 c3 ?_
  refine s_bipush (q := 13) 7 rfl ?_
  refine s_icmp_ne (q := 16) (tgt := 28) 8 rfl rfl (fun hb => ?_) (fun hb => ?_)
  · skip
    have b4 := hb
    replace h := h.1 hb
    refine s_aload_n (q := 29) 16 0 rfl rfl ?_
    refine s_iconst (q := 30) 17 rfl ?_
    refine PW.pick [0] rfl ?_
    exact n_callV (N := mX12_beginText) (as := [(0, 0)]) (st := []) (q := 33) (d' := 3) 18 rfl uX12_beginText kX12_391 rfl c1 h
  · have hb := Classical.not_not.mp hb
    have b4 := hb
    replace h := h.2 hb
    refine s_aload_n (q := 17) 9 0 rfl rfl ?_
    refine s_iconst (q := 18) 10 rfl ?_
    refine n_putf (q := 21) (jj := 13) 11 12 13 rfl kX12_236 c1 (Or.inl rfl) ?_
    refine PW.nameF (fun F2 eF2 => ?_)
    replace h := h F2 eF2
    refine s_aload_n (q := 22) 12 0 rfl rfl ?_
    refine s_bipush (q := 24) 13 rfl ?_
    refine PW.pick [] rfl ?_
    exact n_callV (N := mX12_tell) (as := [(0, (-5))]) (st := []) (q := 27) (d' := 0) 14 rfl uX12_tell kX12_190 rfl c1 h
theorem vX12_law_27 {l : Launch} {G : pG} {bg : Nat × Nat} {n : Nat} {K : Int → Nat × Nat} {F E : Int → Int → Int} {Q : Option pV → pM → Prop} (s0 : Int) (h : Q (some (0, s0)) (n, K, F, E)) : PW l G 8 mX12_law bg 27 [] [(0, s0)] (n, K, F, E) Q := by
  exact s_iret 15 rfl rfl h
theorem vX12_law_33 {l : Launch} {G : pG} {bg : Nat × Nat} {n : Nat} {K : Int → Nat × Nat} {F E : Int → Int → Int} {Q : Option pV → pM → Prop} (x0 : Int) (h : (K x0).1 = 12 ∧ PC l G 7 mX12_readLaw (0, 0) [(2, x0)] (n, K, F, E) (fun r μ => PW l G 8 mX12_law bg 37 [(0, (2, x0))] (r.toList ++ []) μ Q)) : PW l G 8 mX12_law bg 33 [(0, (2, x0))] [] (n, K, F, E) Q := by
  refine s_aload_n (q := 34) 19 0 rfl rfl ?_
  obtain ⟨c1, h⟩ := h
  refine PW.pick [0] rfl ?_
  exact n_callV (N := mX12_readLaw) (as := []) (st := []) (q := 37) (d' := 7) 20 rfl uX12_readLaw kX12_394 rfl c1 h
theorem vX12_law_37 {l : Launch} {G : pG} {bg : Nat × Nat} {n : Nat} {K : Int → Nat × Nat} {F E : Int → Int → Int} {Q : Option pV → pM → Prop} (x0 : Int) (h : (K x0).1 = 12 ∧ ((¬ (F x0 19) = 0 → PC l G 3 mX12_endText (0, 0) [(2, x0)] (n, K, F, E) (fun r μ => PW l G 8 mX12_law bg 68 [(0, (2, x0))] (r.toList ++ []) μ Q)) ∧ ((F x0 19) = 0 → ((¬ (F x0 16 = 3 ∧ F x0 17 = 59) → PC l G 3 mX12_endText (0, 0) [(2, x0)] (n, K, F, E) (fun r μ => PW l G 8 mX12_law bg 68 [(0, (2, x0))] (r.toList ++ []) μ Q)) ∧ (F x0 16 = 3 ∧ F x0 17 = 59 → PC l G 1 mX12_next (0, 0) [(2, x0)] (n, K, F, E) (fun r μ => PW l G 8 mX12_law bg 57 [(0, (2, x0))] (r.toList ++ []) μ Q)))))) : PW l G 8 mX12_law bg 37 [(0, (2, x0))] [] (n, K, F, E) Q := by
  refine s_aload_n (q := 38) 21 0 rfl rfl ?_
  obtain ⟨c1, h⟩ := h
  refine n_getf (q := 41) (jj := 19) 22 12 19 rfl kX12_252 c1 ?_
  refine s_if_ne (q := 44) (tgt := 64) 23 rfl rfl (fun hb => ?_) (fun hb => ?_)
  · skip
    have b2 := hb
    replace h := h.1 hb
    refine s_aload_n (q := 65) 33 0 rfl rfl ?_
    refine PW.pick [0] rfl ?_
    exact n_callV (N := mX12_endText) (as := []) (st := []) (q := 68) (d' := 3) 34 rfl uX12_endText kX12_397 rfl c1 h
  · have hb := Classical.not_not.mp hb
    have b2 := hb
    replace h := h.2 hb
    refine s_aload_n (q := 45) 24 0 rfl rfl ?_
    refine s_bipush (q := 47) 25 rfl ?_
    refine n_callV (N := mX12_isSign) (as := [(0, 59)]) (st := []) (q := 50) (d' := 0) 26 rfl uX12_isSign kX12_323 rfl c1 (pX12_isSign c1 ?_)
    show PW l G 8 mX12_law bg 50 [(0, (2, x0))] [(0, bI (F x0 16 = 3 ∧ F x0 17 = 59))] (n, K, F, E) Q
    refine s_if_eq (q := 53) (tgt := 64) 27 rfl rfl (fun hb => ?_) (fun hb => ?_)
    · have hb := bI_f hb
      have b3 := hb
      replace h := h.1 hb
      refine s_aload_n (q := 65) 33 0 rfl rfl ?_
      refine PW.pick [0] rfl ?_
      exact n_callV (N := mX12_endText) (as := []) (st := []) (q := 68) (d' := 3) 34 rfl uX12_endText kX12_397 rfl c1 h
    · have hb := bI_t hb
      have b3 := hb
      replace h := h.2 hb
      refine s_aload_n (q := 54) 28 0 rfl rfl ?_
      refine PW.pick [0] rfl ?_
      exact n_callV (N := mX12_next) (as := []) (st := []) (q := 57) (d' := 1) 29 rfl uX12_next kX12_256 rfl c1 h
theorem vX12_law_57 {l : Launch} {G : pG} {bg : Nat × Nat} {n : Nat} {K : Int → Nat × Nat} {F E : Int → Int → Int} {Q : Option pV → pM → Prop} (x0 : Int) (h : (K x0).1 = 12 ∧ PC l G 7 mX12_readLaw (0, 0) [(2, x0)] (n, K, F, E) (fun r μ => PW l G 8 mX12_law bg 61 [(0, (2, x0))] (r.toList ++ []) μ Q)) : PW l G 8 mX12_law bg 57 [(0, (2, x0))] [] (n, K, F, E) Q := by
  refine s_aload_n (q := 58) 30 0 rfl rfl ?_
  obtain ⟨c1, h⟩ := h
  refine PW.pick [0] rfl ?_
  exact n_callV (N := mX12_readLaw) (as := []) (st := []) (q := 61) (d' := 7) 31 rfl uX12_readLaw kX12_394 rfl c1 h
theorem vX12_law_68 {l : Launch} {G : pG} {bg : Nat × Nat} {n : Nat} {K : Int → Nat × Nat} {F E : Int → Int → Int} {Q : Option pV → pM → Prop} (x0 : Int) (h : (K x0).1 = 12 ∧ ((F x0 19 = 0 → (K (F x0 3)).1 = 20 ∧ ((0 : Int) ≤ 1 ∧ 1 < ((K (F x0 3)).2 : Int)) ∧ (-2147483648 ≤ 900 * (E (F x0 3) 1) ∧ 900 * (E (F x0 3) 1) < 2147483648) ∧ (-2147483648 ≤ 135 + (900 * (E (F x0 3) 1)) ∧ 135 + (900 * (E (F x0 3) 1)) < 2147483648) ∧ (-2147483648 ≤ (135 + (900 * (E (F x0 3) 1))) + 1 ∧ (135 + (900 * (E (F x0 3) 1))) + 1 < 2147483648) ∧ (0 : Int) ≤ F x0 3 ∧ ((0 : Int) ≤ (135 + (900 * (E (F x0 3) 1))) + 1 ∧ (135 + (900 * (E (F x0 3) 1))) + 1 < ((K (F x0 3)).2 : Int)) ∧ (∀ E1, E1 = pUp E (F x0 3) ((135 + (900 * (E (F x0 3) 1))) + 1) (F x0 21) → PW l G 8 mX12_law bg 111 [(0, (2, x0)), (1, (0, 135 + (900 * (E (F x0 3) 1)))), (2, (0, 0))] [] (n, K, F, E1) Q)) ∧ (¬ (F x0 19 = 0) → PC l G 0 mX12_tell (0, 0) [(2, x0), (0, (-6))] (n, K, F, E) (fun r μ => PW l G 8 mX12_law bg 81 [] (r.toList ++ []) μ Q)))) : PW l G 8 mX12_law bg 68 [(0, (2, x0))] [] (n, K, F, E) Q := by
  refine s_aload_n (q := 69) 35 0 rfl rfl ?_
  obtain ⟨c1, h⟩ := h
  refine n_getf (q := 72) (jj := 19) 36 12 19 rfl kX12_252 c1 ?_
  refine s_if_eq (q := 75) (tgt := 82) 37 rfl rfl (fun hb => ?_) (fun hb => ?_)
  · skip
    have b2 := hb
    replace h := h.1 hb
    refine s_sipush (q := 85) 42 rfl ?_
    refine s_sipush (q := 88) 43 rfl ?_
    refine s_aload_n (q := 89) 44 0 rfl rfl ?_
    refine n_getf (q := 92) (jj := 3) 45 12 3 rfl kX12_13 c1 ?_
    refine s_iconst (q := 93) 46 rfl ?_
    obtain ⟨c3, h⟩ := h
    obtain ⟨c4, h⟩ := h
    refine n_iald (q := 94) 47 rfl c3 c4 ?_
    obtain ⟨c5, h⟩ := h
    refine n_imul (q := 95) 48 rfl c5 ?_
    obtain ⟨c6, h⟩ := h
    refine n_iadd (q := 96) 49 rfl c6 ?_
    refine s_istore_n (q := 97) (lv' := [(1, (0, 135 + (900 * (E (F x0 3) 1)))), (0, (2, x0))]) 50 rfl rfl ?_
    refine s_aload_n (q := 98) 51 1 rfl rfl ?_
    refine n_getf (q := 101) (jj := 3) 52 12 3 rfl kX12_13 c1 ?_
    refine s_iload_n (q := 102) 53 0 rfl rfl ?_
    refine s_iconst (q := 103) 54 rfl ?_
    obtain ⟨c7, h⟩ := h
    refine n_iadd (q := 104) 55 rfl c7 ?_
    refine s_aload_n (q := 105) 56 1 rfl rfl ?_
    refine n_getf (q := 108) (jj := 21) 57 12 21 rfl kX12_383 c1 ?_
    obtain ⟨c8, h⟩ := h
    obtain ⟨c9, h⟩ := h
    refine n_iast (q := 109) 58 rfl c8 c3 c9 ?_
    refine PW.nameE (fun E1 eE1 => ?_)
    replace h := h E1 eE1
    refine s_iconst (q := 110) 59 rfl ?_
    refine s_istore_n (q := 111) (lv' := [(2, (0, 0)), (1, (0, 135 + (900 * (E (F x0 3) 1)))), (0, (2, x0))]) 60 rfl rfl ?_
    refine PW.pick [2, 1, 0] rfl ?_
    exact h
  · skip
    have b2 := hb
    replace h := h.2 hb
    refine s_aload_n (q := 76) 38 0 rfl rfl ?_
    refine s_bipush (q := 78) 39 rfl ?_
    refine PW.pick [] rfl ?_
    exact n_callV (N := mX12_tell) (as := [(0, (-6))]) (st := []) (q := 81) (d' := 0) 40 rfl uX12_tell kX12_190 rfl c1 h
theorem vX12_law_61 {l : Launch} {G : pG} {bg : Nat × Nat} {n : Nat} {K : Int → Nat × Nat} {F E : Int → Int → Int} {Q : Option pV → pM → Prop} (x0 : Int) (h : PW l G 8 mX12_law bg 37 [(0, (2, x0))] [] (n, K, F, E) Q) : PW l G 8 mX12_law bg 61 [(0, (2, x0))] [] (n, K, F, E) Q := by
  refine s_goto (tgt := 37) 32 rfl rfl ?_
  refine PW.pick [0] rfl ?_
  exact h
theorem vX12_law_81 {l : Launch} {G : pG} {bg : Nat × Nat} {n : Nat} {K : Int → Nat × Nat} {F E : Int → Int → Int} {Q : Option pV → pM → Prop} (s0 : Int) (h : Q (some (0, s0)) (n, K, F, E)) : PW l G 8 mX12_law bg 81 [] [(0, s0)] (n, K, F, E) Q := by
  exact s_iret 41 rfl rfl h
theorem vX12_law_111 {l : Launch} {G : pG} {bg : Nat × Nat} {n : Nat} {K : Int → Nat × Nat} {F E : Int → Int → Int} {Q : Option pV → pM → Prop} (x0 x1 x2 : Int) (h : (K x0).1 = 12 ∧ (-2147483648 ≤ 8 * (F x0 21) ∧ 8 * (F x0 21) < 2147483648) ∧ ((8 * (F x0 21) ≤ x2 → PW l G 8 mX12_law bg 146 [(0, (2, x0)), (1, (0, x1)), (2, (0, 0))] [] (n, K, F, E) Q) ∧ (¬ (8 * (F x0 21) ≤ x2) → (-2147483648 ≤ x1 + 2 ∧ x1 + 2 < 2147483648) ∧ (-2147483648 ≤ (x1 + 2) + x2 ∧ (x1 + 2) + x2 < 2147483648) ∧ (K (F x0 22)).1 = 20 ∧ ((0 : Int) ≤ x2 ∧ x2 < ((K (F x0 22)).2 : Int)) ∧ (0 : Int) ≤ F x0 3 ∧ (K (F x0 3)).1 = 20 ∧ ((0 : Int) ≤ (x1 + 2) + x2 ∧ (x1 + 2) + x2 < ((K (F x0 3)).2 : Int)) ∧ (∀ E1, E1 = pUp E (F x0 3) ((x1 + 2) + x2) (E (F x0 22) x2) → (-2147483648 ≤ x2 + 1 ∧ x2 + 1 < 2147483648) ∧ PW l G 8 mX12_law bg 111 [(0, (2, x0)), (1, (0, x1)), (2, (0, x2 + 1))] [] (n, K, F, E1) Q)))) : PW l G 8 mX12_law bg 111 [(0, (2, x0)), (1, (0, x1)), (2, (0, x2))] [] (n, K, F, E) Q := by
  refine s_iload_n (q := 112) 61 2 rfl rfl ?_
  refine s_bipush (q := 114) 62 rfl ?_
  refine s_aload_n (q := 115) 63 0 rfl rfl ?_
  obtain ⟨c1, h⟩ := h
  refine n_getf (q := 118) (jj := 21) 64 12 21 rfl kX12_383 c1 ?_
  obtain ⟨c2, h⟩ := h
  refine n_imul (q := 119) 65 rfl c2 ?_
  refine s_icmp_ge (q := 122) (tgt := 144) 66 rfl rfl (fun hb => ?_) (fun hb => ?_)
  · skip
    have b3 := hb
    replace h := h.1 hb
    refine s_iconst (q := 145) 81 rfl ?_
    refine s_istore_n (q := 146) (lv' := [(2, (0, 0)), (0, (2, x0)), (1, (0, x1))]) 82 rfl rfl ?_
    refine PW.pick [1, 2, 0] rfl ?_
    exact h
  · skip
    have b3 := hb
    replace h := h.2 hb
    refine s_aload_n (q := 123) 67 0 rfl rfl ?_
    refine n_getf (q := 126) (jj := 3) 68 12 3 rfl kX12_13 c1 ?_
    refine s_iload_n (q := 127) 69 1 rfl rfl ?_
    refine s_iconst (q := 128) 70 rfl ?_
    obtain ⟨c4, h⟩ := h
    refine n_iadd (q := 129) 71 rfl c4 ?_
    refine s_iload_n (q := 130) 72 2 rfl rfl ?_
    obtain ⟨c5, h⟩ := h
    refine n_iadd (q := 131) 73 rfl c5 ?_
    refine s_aload_n (q := 132) 74 0 rfl rfl ?_
    refine n_getf (q := 135) (jj := 22) 75 12 22 rfl kX12_42 c1 ?_
    refine s_iload_n (q := 136) 76 2 rfl rfl ?_
    obtain ⟨c6, h⟩ := h
    obtain ⟨c7, h⟩ := h
    refine n_iald (q := 137) 77 rfl c6 c7 ?_
    obtain ⟨c8, h⟩ := h
    obtain ⟨c9, h⟩ := h
    obtain ⟨c10, h⟩ := h
    refine n_iast (q := 138) 78 rfl c8 c9 c10 ?_
    refine PW.nameE (fun E1 eE1 => ?_)
    replace h := h E1 eE1
    obtain ⟨c11, h⟩ := h
    refine n_iinc (q := 141) (lv' := [(2, (0, x2 + 1)), (0, (2, x0)), (1, (0, x1))]) 79 2 rfl rfl c11 rfl ?_
    refine s_goto (tgt := 111) 80 rfl rfl ?_
    refine PW.pick [1, 2, 0] rfl ?_
    exact h
theorem vX12_law_146 {l : Launch} {G : pG} {bg : Nat × Nat} {n : Nat} {K : Int → Nat × Nat} {F E : Int → Int → Int} {Q : Option pV → pM → Prop} (x0 x1 x2 : Int) (h : (K x0).1 = 12 ∧ ((F x0 23 ≤ x2 → (K (F x0 3)).1 = 20 ∧ ((0 : Int) ≤ 1 ∧ 1 < ((K (F x0 3)).2 : Int)) ∧ (-2147483648 ≤ (E (F x0 3) 1) + 1 ∧ (E (F x0 3) 1) + 1 < 2147483648) ∧ (0 : Int) ≤ F x0 3 ∧ (∀ E1, E1 = pUp E (F x0 3) 1 ((E (F x0 3) 1) + 1) → (-2147483648 ≤ ((E (F x0 3) 1) + 1) - 1 ∧ ((E (F x0 3) 1) + 1) - 1 < 2147483648) ∧ PC l G 0 mX12_tell (0, 0) [(2, x0), (0, ((E (F x0 3) 1) + 1) - 1)] (n, K, F, E1) (fun r μ => PW l G 8 mX12_law bg 222 [] (r.toList ++ []) μ Q))) ∧ (¬ (F x0 23 ≤ x2) → (-2147483648 ≤ x1 + 98 ∧ x1 + 98 < 2147483648) ∧ (-2147483648 ≤ 2 * x2 ∧ 2 * x2 < 2147483648) ∧ (-2147483648 ≤ (x1 + 98) + (2 * x2) ∧ (x1 + 98) + (2 * x2) < 2147483648) ∧ (K (F x0 24)).1 = 20 ∧ ((0 : Int) ≤ x2 ∧ x2 < ((K (F x0 24)).2 : Int)) ∧ (0 : Int) ≤ F x0 3 ∧ (K (F x0 3)).1 = 20 ∧ ((0 : Int) ≤ (x1 + 98) + (2 * x2) ∧ (x1 + 98) + (2 * x2) < ((K (F x0 3)).2 : Int)) ∧ (∀ E2, E2 = pUp E (F x0 3) ((x1 + 98) + (2 * x2)) (E (F x0 24) x2) → (-2147483648 ≤ ((x1 + 98) + (2 * x2)) + 1 ∧ ((x1 + 98) + (2 * x2)) + 1 < 2147483648) ∧ (K (F x0 25)).1 = 20 ∧ ((0 : Int) ≤ x2 ∧ x2 < ((K (F x0 25)).2 : Int)) ∧ ((0 : Int) ≤ ((x1 + 98) + (2 * x2)) + 1 ∧ ((x1 + 98) + (2 * x2)) + 1 < ((K (F x0 3)).2 : Int)) ∧ (∀ E3, E3 = pUp E2 (F x0 3) (((x1 + 98) + (2 * x2)) + 1) (E2 (F x0 25) x2) → (-2147483648 ≤ x2 + 1 ∧ x2 + 1 < 2147483648) ∧ PW l G 8 mX12_law bg 146 [(0, (2, x0)), (1, (0, x1)), (2, (0, x2 + 1))] [] (n, K, F, E3) Q))))) : PW l G 8 mX12_law bg 146 [(0, (2, x0)), (1, (0, x1)), (2, (0, x2))] [] (n, K, F, E) Q := by
  refine s_iload_n (q := 147) 83 2 rfl rfl ?_
  refine s_aload_n (q := 148) 84 0 rfl rfl ?_
  obtain ⟨c1, h⟩ := h
  refine n_getf (q := 151) (jj := 23) 85 12 23 rfl kX12_289 c1 ?_
  refine s_icmp_ge (q := 154) (tgt := 200) 86 rfl rfl (fun hb => ?_) (fun hb => ?_)
  · skip
    have b2 := hb
    replace h := h.1 hb
    refine s_aload_n (q := 201) 119 0 rfl rfl ?_
    refine n_getf (q := 204) (jj := 3) 120 12 3 rfl kX12_13 c1 ?_
    refine s_iconst (q := 205) 121 rfl ?_
    refine s_dup2 (q := 206) 122 rfl ?_
    obtain ⟨c3, h⟩ := h
    obtain ⟨c4, h⟩ := h
    refine n_iald (q := 207) 123 rfl c3 c4 ?_
    refine s_iconst (q := 208) 124 rfl ?_
    obtain ⟨c5, h⟩ := h
    refine n_iadd (q := 209) 125 rfl c5 ?_
    obtain ⟨c6, h⟩ := h
    refine n_iast (q := 210) 126 rfl c6 c3 c4 ?_
    refine PW.nameE (fun E1 eE1 => ?_)
    replace h := h E1 eE1
    refine s_aload_n (q := 211) 127 0 rfl rfl ?_
    refine s_aload_n (q := 212) 128 0 rfl rfl ?_
    refine n_getf (q := 215) (jj := 3) 129 12 3 rfl kX12_13 c1 ?_
    refine s_iconst (q := 216) 130 rfl ?_
    refine n_iald (q := 217) 131 rfl c3 c4 ?_
    refine PW.top (b := (E (F x0 3) 1) + 1) (by exact (congrFun (congrFun eE1 _) _).trans pUp_s) ?_
    refine s_iconst (q := 218) 132 rfl ?_
    obtain ⟨c7, h⟩ := h
    refine n_isub (q := 219) 133 rfl c7 ?_
    refine PW.pick [] rfl ?_
    exact n_callV (N := mX12_tell) (as := [(0, ((E (F x0 3) 1) + 1) - 1)]) (st := []) (q := 222) (d' := 0) 134 rfl uX12_tell kX12_190 rfl c1 h
  · skip
    have b2 := hb
    replace h := h.2 hb
    refine s_aload_n (q := 155) 87 0 rfl rfl ?_
    refine n_getf (q := 158) (jj := 3) 88 12 3 rfl kX12_13 c1 ?_
    refine s_iload_n (q := 159) 89 1 rfl rfl ?_
    refine s_bipush (q := 161) 90 rfl ?_
    obtain ⟨c8, h⟩ := h
    refine n_iadd (q := 162) 91 rfl c8 ?_
    refine s_iconst (q := 163) 92 rfl ?_
    refine s_iload_n (q := 164) 93 2 rfl rfl ?_
    obtain ⟨c9, h⟩ := h
    refine n_imul (q := 165) 94 rfl c9 ?_
    obtain ⟨c10, h⟩ := h
    refine n_iadd (q := 166) 95 rfl c10 ?_
    refine s_aload_n (q := 167) 96 0 rfl rfl ?_
    refine n_getf (q := 170) (jj := 24) 97 12 24 rfl kX12_45 c1 ?_
    refine s_iload_n (q := 171) 98 2 rfl rfl ?_
    obtain ⟨c11, h⟩ := h
    obtain ⟨c12, h⟩ := h
    refine n_iald (q := 172) 99 rfl c11 c12 ?_
    obtain ⟨c13, h⟩ := h
    obtain ⟨c14, h⟩ := h
    obtain ⟨c15, h⟩ := h
    refine n_iast (q := 173) 100 rfl c13 c14 c15 ?_
    refine PW.nameE (fun E2 eE2 => ?_)
    replace h := h E2 eE2
    refine s_aload_n (q := 174) 101 0 rfl rfl ?_
    refine n_getf (q := 177) (jj := 3) 102 12 3 rfl kX12_13 c1 ?_
    refine s_iload_n (q := 178) 103 1 rfl rfl ?_
    refine s_bipush (q := 180) 104 rfl ?_
    refine n_iadd (q := 181) 105 rfl c8 ?_
    refine s_iconst (q := 182) 106 rfl ?_
    refine s_iload_n (q := 183) 107 2 rfl rfl ?_
    refine n_imul (q := 184) 108 rfl c9 ?_
    refine n_iadd (q := 185) 109 rfl c10 ?_
    refine s_iconst (q := 186) 110 rfl ?_
    obtain ⟨c16, h⟩ := h
    refine n_iadd (q := 187) 111 rfl c16 ?_
    refine s_aload_n (q := 188) 112 0 rfl rfl ?_
    refine n_getf (q := 191) (jj := 25) 113 12 25 rfl kX12_48 c1 ?_
    refine s_iload_n (q := 192) 114 2 rfl rfl ?_
    obtain ⟨c17, h⟩ := h
    obtain ⟨c18, h⟩ := h
    refine n_iald (q := 193) 115 rfl c17 c18 ?_
    obtain ⟨c19, h⟩ := h
    refine n_iast (q := 194) 116 rfl c13 c14 c19 ?_
    refine PW.nameE (fun E3 eE3 => ?_)
    replace h := h E3 eE3
    obtain ⟨c20, h⟩ := h
    refine n_iinc (q := 197) (lv' := [(2, (0, x2 + 1)), (0, (2, x0)), (1, (0, x1))]) 117 2 rfl rfl c20 rfl ?_
    refine s_goto (tgt := 146) 118 rfl rfl ?_
    refine PW.pick [1, 2, 0] rfl ?_
    exact h
theorem vX12_law_222 {l : Launch} {G : pG} {bg : Nat × Nat} {n : Nat} {K : Int → Nat × Nat} {F E : Int → Int → Int} {Q : Option pV → pM → Prop} (s0 : Int) (h : Q (some (0, s0)) (n, K, F, E)) : PW l G 8 mX12_law bg 222 [] [(0, s0)] (n, K, F, E) Q := by
  exact s_iret 135 rfl rfl h
theorem vX12_force_0 {l : Launch} {G : pG} {bg : Nat × Nat} {n : Nat} {K : Int → Nat × Nat} {F E : Int → Int → Int} {Q : Option pV → pM → Prop} (x0 x1 : Int) (h : (K x0).1 = 12 ∧ (∀ F1, F1 = pUp F x0 0 0 → (K (F1 x0 3)).1 = 20 ∧ ((0 : Int) ≤ 1 ∧ 1 < ((K (F1 x0 3)).2 : Int)) ∧ (-9223372036854775808 ≤ (E (F1 x0 3) 1) - 1 ∧ (E (F1 x0 3) 1) - 1 < 9223372036854775808) ∧ ((¬ (x1 = -1 ∨ (0 ≤ x1 ∧ x1 ≤ (E (F1 x0 3) 1) - 1)) → PC l G 0 mX12_tell (0, 0) [(2, x0), (0, (-2))] (n, K, F1, E) (fun r μ => PW l G 2 mX12_force bg 28 [] (r.toList ++ []) μ Q)) ∧ (x1 = -1 ∨ (0 ≤ x1 ∧ x1 ≤ (E (F1 x0 3) 1) - 1) → (K (F x0 3)).1 = 20 ∧ ((0 : Int) ≤ 2 ∧ 2 < ((K (F x0 3)).2 : Int)) ∧ (0 : Int) ≤ F x0 3 ∧ (∀ E2, E2 = pUp E (F x0 3) 2 x1 → (∀ F3, F3 = pUp F1 x0 1 0 → Q (some (0, E (F x0 3) 2)) (n, K, F3, E2))))))) : PW l G 2 mX12_force bg 0 [(0, (2, x0)), (1, (0, x1))] [] (n, K, F, E) Q := by
  refine s_aload_n (q := 1) 0 0 rfl rfl ?_
  refine s_iconst (q := 2) 1 rfl ?_
  obtain ⟨c1, h⟩ := h
  refine n_putf (q := 5) (jj := 0) 2 12 0 rfl kX12_174 c1 (Or.inl rfl) ?_
  refine PW.nameF (fun F1 eF1 => ?_)
  replace h := h F1 eF1
  refine s_aload_n (q := 6) 3 0 rfl rfl ?_
  refine s_iload_n (q := 7) 4 1 rfl rfl ?_
  obtain ⟨c2, h⟩ := h
  obtain ⟨c3, h⟩ := h
  obtain ⟨c4, h⟩ := h
  refine n_callV (N := mX12_isLaw) (as := [(0, x1)]) (st := []) (q := 10) (d' := 1) 5 rfl uX12_isLaw kX12_400 rfl c1 (pX12_isLaw c1 c2 c3 c4 ?_)
  show PW l G 2 mX12_force bg 10 [(0, (2, x0)), (1, (0, x1))] [(0, bI (x1 = -1 ∨ (0 ≤ x1 ∧ x1 ≤ (E (F1 x0 3) 1) - 1)))] (n, K, F1, E) Q
  refine s_if_eq (q := 13) (tgt := 22) 6 rfl rfl (fun hb => ?_) (fun hb => ?_)
  · have hb := bI_f hb
    have b5 := hb
    replace h := h.1 hb
    refine s_aload_n (q := 23) 12 0 rfl rfl ?_
    refine s_bipush (q := 25) 13 rfl ?_
    refine PW.pick [] rfl ?_
    exact n_callV (N := mX12_tell) (as := [(0, (-2))]) (st := []) (q := 28) (d' := 0) 14 rfl uX12_tell kX12_190 rfl c1 h
  · have hb := bI_t hb
    have b5 := hb
    replace h := h.2 hb
    refine s_aload_n (q := 14) 7 0 rfl rfl ?_
    refine s_iconst (q := 15) 8 rfl ?_
    refine s_iload_n (q := 16) 9 1 rfl rfl ?_
    refine n_callV (N := mX12_change) (as := [(0, 2), (0, x1)]) (st := []) (q := 19) (d' := 0) 10 rfl uX12_change kX12_233 rfl c1 ?_
    show PW l G 0 mX12_change (0, 0) 0 [(0, (2, x0)), (1, (0, 2)), (2, (0, x1))] [] (n, K, F1, E) _
    refine s_aload_n (q := 1) 0 0 rfl rfl ?_
    refine n_getf (q := 4) (jj := 3) 1 12 3 rfl kX12_13 c1 ?_
    refine PW.top (b := F x0 3) (by exact (congrFun (congrFun eF1 _) _).trans (pUp_k (by decide))) ?_
    refine s_iload_n (q := 5) 2 1 rfl rfl ?_
    obtain ⟨c6, h⟩ := h
    obtain ⟨c7, h⟩ := h
    refine n_iald (q := 6) 3 rfl c6 c7 ?_
    refine s_istore_n (q := 7) (lv' := [(3, (0, E (F x0 3) 2)), (0, (2, x0)), (1, (0, 2)), (2, (0, x1))]) 4 rfl rfl ?_
    refine s_aload_n (q := 8) 5 1 rfl rfl ?_
    refine n_getf (q := 11) (jj := 3) 6 12 3 rfl kX12_13 c1 ?_
    refine PW.top (b := F x0 3) (by exact (congrFun (congrFun eF1 _) _).trans (pUp_k (by decide))) ?_
    refine s_iload_n (q := 12) 7 2 rfl rfl ?_
    refine s_iload_n (q := 13) 8 3 rfl rfl ?_
    obtain ⟨c8, h⟩ := h
    refine n_iast (q := 14) 9 rfl c8 c6 c7 ?_
    refine PW.nameE (fun E2 eE2 => ?_)
    replace h := h E2 eE2
    refine s_aload_n (q := 15) 10 1 rfl rfl ?_
    refine s_iconst (q := 16) 11 rfl ?_
    refine n_putf (q := 19) (jj := 1) 12 12 1 rfl kX12_177 c1 (Or.inl rfl) ?_
    refine PW.nameF (fun F3 eF3 => ?_)
    replace h := h F3 eF3
    refine s_iload_n (q := 20) 13 0 rfl rfl ?_
    refine s_iret 14 rfl rfl ?_
    show PW l G 2 mX12_force bg 19 [(0, (2, x0)), (1, (0, x1))] [(0, E (F x0 3) 2)] (n, K, F3, E2) Q
    refine s_goto (tgt := 28) 11 rfl rfl ?_
    exact s_iret 15 rfl rfl h
theorem vX12_force_28 {l : Launch} {G : pG} {bg : Nat × Nat} {n : Nat} {K : Int → Nat × Nat} {F E : Int → Int → Int} {Q : Option pV → pM → Prop} (s0 : Int) (h : Q (some (0, s0)) (n, K, F, E)) : PW l G 2 mX12_force bg 28 [] [(0, s0)] (n, K, F, E) Q := by
  exact s_iret 15 rfl rfl h
theorem vX12_reckon_0 {l : Launch} {G : pG} {bg : Nat × Nat} {n : Nat} {K : Int → Nat × Nat} {F E : Int → Int → Int} {Q : Option pV → pM → Prop} (x0 x1 x2 x4 : Int) (h : (((x1 < 20 ∨ 26 < x1) → ((¬ x2 = x4 → Q (some (1, 0)) (n, K, F, E)) ∧ (x2 = x4 → Q (some (1, 1)) (n, K, F, E)))) ∧ (x1 = 20 → (-9223372036854775808 ≤ x2 + x4 ∧ x2 + x4 < 9223372036854775808) ∧ Q (some (1, x2 + x4)) (n, K, F, E)) ∧ (x1 = 21 → (-9223372036854775808 ≤ x2 - x4 ∧ x2 - x4 < 9223372036854775808) ∧ Q (some (1, x2 - x4)) (n, K, F, E)) ∧ (x1 = 22 → Q (some (1, w64 (x2 * x4))) (n, K, F, E)) ∧ (x1 = 23 → ((¬ x4 = 0 → (K x0).1 = 12 ∧ (∀ F1, F1 = pUp F x0 38 0 → Q (some (1, w64 (x2.tdiv x4))) (n, K, F1, E))) ∧ (x4 = 0 → (K x0).1 = 12 ∧ (∀ F2, F2 = pUp F x0 38 1 → Q (some (1, 0)) (n, K, F2, E))))) ∧ (x1 = 24 → ((¬ x4 = 0 → (K x0).1 = 12 ∧ (∀ F3, F3 = pUp F x0 38 0 → Q (some (1, x2.tmod x4)) (n, K, F3, E))) ∧ (x4 = 0 → (K x0).1 = 12 ∧ (∀ F4, F4 = pUp F x0 38 1 → Q (some (1, 0)) (n, K, F4, E))))) ∧ (x1 = 25 → ((x4 ≤ x2 → Q (some (1, 0)) (n, K, F, E)) ∧ (¬ (x4 ≤ x2) → Q (some (1, 1)) (n, K, F, E)))) ∧ (x1 = 26 → ((x2 ≤ x4 → Q (some (1, 0)) (n, K, F, E)) ∧ (¬ (x2 ≤ x4) → Q (some (1, 1)) (n, K, F, E)))))) : PW l G 0 mX12_reckon bg 0 [(0, (2, x0)), (1, (0, x1)), (2, (1, x2)), (4, (1, x4))] [] (n, K, F, E) Q := by
  refine s_iload_n (q := 1) 0 1 rfl rfl ?_
  obtain ⟨h0, h⟩ := h
  by_cases hsw : x1 < 20 ∨ 26 < x1
  · refine s_tableOut (tgt := 149) 1 rfl hsw rfl ?_
    replace h := h0 hsw
    refine s_lload_n (q := 150) 66 2 rfl rfl ?_
    refine s_lload (q := 152) 67 3 rfl rfl ?_
    refine s_lcmp (q := 153) 68 rfl ?_
    refine s_if_ne (q := 156) (tgt := 160) 69 rfl rfl (fun hb => ?_) (fun hb => ?_)
    · have hb := mt lCmp_eq.mpr hb
      have b1 := hb
      replace h := h.1 hb
      refine s_lconst (q := 161) (x := 0) 72 rfl ?_
      exact s_lret 73 rfl rfl h
    · have hb := lCmp_eq.mp (Classical.not_not.mp hb)
      have b1 := hb
      replace h := h.2 hb
      refine s_lconst (q := 157) (x := 1) 70 rfl ?_
      refine s_goto (tgt := 161) 71 rfl rfl ?_
      exact s_lret 73 rfl rfl h
  have gl : 20 ≤ x1 := by omega
  have gh : x1 ≤ 26 := by omega
  clear hsw
  obtain ⟨h0, h⟩ := h
  by_cases hs0 : x1 = 20
  · refine s_tableIn (tgt := 44) (off := 43) 1 rfl ⟨by rw [hs0]; decide, by rw [hs0]; decide⟩ (by rw [hs0]; rfl) rfl ?_
    replace h := h0 hs0
    refine s_lload_n (q := 45) 2 2 rfl rfl ?_
    refine s_lload (q := 47) 3 3 rfl rfl ?_
    obtain ⟨c2, h⟩ := h
    refine n_ladd (q := 48) 4 rfl c2 ?_
    exact s_lret 5 rfl rfl h
  clear h0
  replace gl : 21 ≤ x1 := by clear h; omega
  clear hs0
  obtain ⟨h0, h⟩ := h
  by_cases hs0 : x1 = 21
  · refine s_tableIn (tgt := 49) (off := 48) 1 rfl ⟨by rw [hs0]; decide, by rw [hs0]; decide⟩ (by rw [hs0]; rfl) rfl ?_
    replace h := h0 hs0
    refine s_lload_n (q := 50) 6 2 rfl rfl ?_
    refine s_lload (q := 52) 7 3 rfl rfl ?_
    obtain ⟨c3, h⟩ := h
    refine n_lsub (q := 53) 8 rfl c3 ?_
    exact s_lret 9 rfl rfl h
  clear h0
  replace gl : 22 ≤ x1 := by clear h; omega
  clear hs0
  obtain ⟨h0, h⟩ := h
  by_cases hs0 : x1 = 22
  · refine s_tableIn (tgt := 54) (off := 53) 1 rfl ⟨by rw [hs0]; decide, by rw [hs0]; decide⟩ (by rw [hs0]; rfl) rfl ?_
    replace h := h0 hs0
    refine s_lload_n (q := 55) 10 2 rfl rfl ?_
    refine s_lload (q := 57) 11 3 rfl rfl ?_
    refine s_lmul (q := 58) 12 rfl ?_
    exact s_lret 13 rfl rfl h
  clear h0
  replace gl : 23 ≤ x1 := by clear h; omega
  clear hs0
  obtain ⟨h0, h⟩ := h
  by_cases hs0 : x1 = 23
  · refine s_tableIn (tgt := 59) (off := 58) 1 rfl ⟨by rw [hs0]; decide, by rw [hs0]; decide⟩ (by rw [hs0]; rfl) rfl ?_
    replace h := h0 hs0
    refine s_aload_n (q := 60) 14 0 rfl rfl ?_
    refine s_lload (q := 62) 15 3 rfl rfl ?_
    refine s_lconst (q := 63) (x := 0) 16 rfl ?_
    refine s_lcmp (q := 64) 17 rfl ?_
    refine s_if_ne (q := 67) (tgt := 71) 18 rfl rfl (fun hb => ?_) (fun hb => ?_)
    · have hb := mt lCmp_eq.mpr hb
      have b4 := hb
      replace h := h.1 hb
      refine s_iconst (q := 72) 21 rfl ?_
      obtain ⟨c5, h⟩ := h
      refine n_putf (q := 75) (jj := 38) 22 12 38 rfl kX12_403 c5 (Or.inr (Or.inr (Or.inl ⟨rfl, (by decide)⟩))) ?_
      refine PW.nameF (fun F1 eF1 => ?_)
      replace h := h F1 eF1
      refine s_aload_n (q := 76) 23 0 rfl rfl ?_
      refine n_getf (q := 79) (jj := 38) 24 12 38 rfl kX12_403 c5 ?_
      refine PW.top (b := 0) (by exact (congrFun (congrFun eF1 _) _).trans pUp_s) ?_
      refine s_if_eq (q := 82) (tgt := 86) 25 rfl rfl (fun _ => ?_) (fun hb => absurd (by decide) hb)
      refine s_lload_n (q := 87) 28 2 rfl rfl ?_
      refine s_lload (q := 89) 29 3 rfl rfl ?_
      refine s_ldiv (q := 90) 30 rfl b4 ?_
      exact s_lret 31 rfl rfl h
    · have hb := lCmp_eq.mp (Classical.not_not.mp hb)
      have b4 := hb
      replace h := h.2 hb
      refine s_iconst (q := 68) 19 rfl ?_
      refine s_goto (tgt := 72) 20 rfl rfl ?_
      obtain ⟨c6, h⟩ := h
      refine n_putf (q := 75) (jj := 38) 22 12 38 rfl kX12_403 c6 (Or.inr (Or.inr (Or.inl ⟨rfl, (by decide)⟩))) ?_
      refine PW.nameF (fun F2 eF2 => ?_)
      replace h := h F2 eF2
      refine s_aload_n (q := 76) 23 0 rfl rfl ?_
      refine n_getf (q := 79) (jj := 38) 24 12 38 rfl kX12_403 c6 ?_
      refine PW.top (b := 1) (by exact (congrFun (congrFun eF2 _) _).trans pUp_s) ?_
      refine s_if_eq (q := 82) (tgt := 86) 25 rfl rfl (fun hb => absurd hb (by decide)) (fun _ => ?_)
      refine s_lconst (q := 83) (x := 0) 26 rfl ?_
      refine s_goto (tgt := 90) 27 rfl rfl ?_
      exact s_lret 31 rfl rfl h
  clear h0
  replace gl : 24 ≤ x1 := by clear h; omega
  clear hs0
  obtain ⟨h0, h⟩ := h
  by_cases hs0 : x1 = 24
  · refine s_tableIn (tgt := 91) (off := 90) 1 rfl ⟨by rw [hs0]; decide, by rw [hs0]; decide⟩ (by rw [hs0]; rfl) rfl ?_
    replace h := h0 hs0
    refine s_aload_n (q := 92) 32 0 rfl rfl ?_
    refine s_lload (q := 94) 33 3 rfl rfl ?_
    refine s_lconst (q := 95) (x := 0) 34 rfl ?_
    refine s_lcmp (q := 96) 35 rfl ?_
    refine s_if_ne (q := 99) (tgt := 103) 36 rfl rfl (fun hb => ?_) (fun hb => ?_)
    · have hb := mt lCmp_eq.mpr hb
      have b7 := hb
      replace h := h.1 hb
      refine s_iconst (q := 104) 39 rfl ?_
      obtain ⟨c8, h⟩ := h
      refine n_putf (q := 107) (jj := 38) 40 12 38 rfl kX12_403 c8 (Or.inr (Or.inr (Or.inl ⟨rfl, (by decide)⟩))) ?_
      refine PW.nameF (fun F3 eF3 => ?_)
      replace h := h F3 eF3
      refine s_aload_n (q := 108) 41 0 rfl rfl ?_
      refine n_getf (q := 111) (jj := 38) 42 12 38 rfl kX12_403 c8 ?_
      refine PW.top (b := 0) (by exact (congrFun (congrFun eF3 _) _).trans pUp_s) ?_
      refine s_if_eq (q := 114) (tgt := 118) 43 rfl rfl (fun _ => ?_) (fun hb => absurd (by decide) hb)
      refine s_lload_n (q := 119) 46 2 rfl rfl ?_
      refine s_lload (q := 121) 47 3 rfl rfl ?_
      refine s_lrem (q := 122) 48 rfl b7 ?_
      exact s_lret 49 rfl rfl h
    · have hb := lCmp_eq.mp (Classical.not_not.mp hb)
      have b7 := hb
      replace h := h.2 hb
      refine s_iconst (q := 100) 37 rfl ?_
      refine s_goto (tgt := 104) 38 rfl rfl ?_
      obtain ⟨c9, h⟩ := h
      refine n_putf (q := 107) (jj := 38) 40 12 38 rfl kX12_403 c9 (Or.inr (Or.inr (Or.inl ⟨rfl, (by decide)⟩))) ?_
      refine PW.nameF (fun F4 eF4 => ?_)
      replace h := h F4 eF4
      refine s_aload_n (q := 108) 41 0 rfl rfl ?_
      refine n_getf (q := 111) (jj := 38) 42 12 38 rfl kX12_403 c9 ?_
      refine PW.top (b := 1) (by exact (congrFun (congrFun eF4 _) _).trans pUp_s) ?_
      refine s_if_eq (q := 114) (tgt := 118) 43 rfl rfl (fun hb => absurd hb (by decide)) (fun _ => ?_)
      refine s_lconst (q := 115) (x := 0) 44 rfl ?_
      refine s_goto (tgt := 122) 45 rfl rfl ?_
      exact s_lret 49 rfl rfl h
  clear h0
  replace gl : 25 ≤ x1 := by clear h; omega
  clear hs0
  obtain ⟨h0, h⟩ := h
  by_cases hs0 : x1 = 25
  · refine s_tableIn (tgt := 123) (off := 122) 1 rfl ⟨by rw [hs0]; decide, by rw [hs0]; decide⟩ (by rw [hs0]; rfl) rfl ?_
    replace h := h0 hs0
    refine s_lload_n (q := 124) 50 2 rfl rfl ?_
    refine s_lload (q := 126) 51 3 rfl rfl ?_
    refine s_lcmp (q := 127) 52 rfl ?_
    refine s_if_ge (q := 130) (tgt := 134) 53 rfl rfl (fun hb => ?_) (fun hb => ?_)
    · have hb := lCmp_ge.mp hb
      have b10 := hb
      replace h := h.1 hb
      refine s_lconst (q := 135) (x := 0) 56 rfl ?_
      exact s_lret 57 rfl rfl h
    · have hb := mt lCmp_ge.mpr hb
      have b10 := hb
      replace h := h.2 hb
      refine s_lconst (q := 131) (x := 1) 54 rfl ?_
      refine s_goto (tgt := 135) 55 rfl rfl ?_
      exact s_lret 57 rfl rfl h
  clear h0
  replace gl : 26 ≤ x1 := by clear h; omega
  clear hs0
  have h0 := h
  by_cases hs0 : x1 = 26
  · refine s_tableIn (tgt := 136) (off := 135) 1 rfl ⟨by rw [hs0]; decide, by rw [hs0]; decide⟩ (by rw [hs0]; rfl) rfl ?_
    replace h := h0 hs0
    refine s_lload_n (q := 137) 58 2 rfl rfl ?_
    refine s_lload (q := 139) 59 3 rfl rfl ?_
    refine s_lcmp (q := 140) 60 rfl ?_
    refine s_if_le (q := 143) (tgt := 147) 61 rfl rfl (fun hb => ?_) (fun hb => ?_)
    · have hb := lCmp_le.mp hb
      have b11 := hb
      replace h := h.1 hb
      refine s_lconst (q := 148) (x := 0) 64 rfl ?_
      exact s_lret 65 rfl rfl h
    · have hb := mt lCmp_le.mpr hb
      have b11 := hb
      replace h := h.2 hb
      refine s_lconst (q := 144) (x := 1) 62 rfl ?_
      refine s_goto (tgt := 148) 63 rfl rfl ?_
      exact s_lret 65 rfl rfl h
  clear h0
  replace gl : 27 ≤ x1 := by clear h; omega
  clear hs0
  clear h
  exfalso
  omega
