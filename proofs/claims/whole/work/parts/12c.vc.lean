theorem vX5_readOrder_0 {l : Launch} {G : pG} {bg : Nat × Nat} {n : Nat} {K : Int → Nat × Nat} {F E : Int → Int → Int} {Q : Option pV → pM → Prop} (x0 x1 : Int) (h : (K x0).1 = 5 ∧ PC l G 61 mX5_readWhole (0, 0) [(2, x0), (0, 0)] (n, K, F, E) (fun r μ => PW l G 62 mX5_readOrder bg 5 [(0, (2, x0)), (1, (0, x1))] (r.toList ++ []) μ Q)) : PW l G 62 mX5_readOrder bg 0 [(0, (2, x0)), (1, (0, x1))] [] (n, K, F, E) Q := by
  refine s_aload_n (q := 1) 0 0 rfl rfl ?_
  refine s_iconst (q := 2) 1 rfl ?_
  obtain ⟨c1, h⟩ := h
  refine PW.pick [0, 1] rfl ?_
  exact n_callV (N := mX5_readWhole) (as := [(0, 0)]) (st := []) (q := 5) (d' := 61) 2 rfl uX5_readWhole kX5_67 rfl c1 h
theorem vX5_readOrder_5 {l : Launch} {G : pG} {bg : Nat × Nat} {n : Nat} {K : Int → Nat × Nat} {F E : Int → Int → Int} {Q : Option pV → pM → Prop} (x0 x1 s0 : Int) (h : ((¬ s0 = 0 → ((¬ x1 = 0 → ((x1 = 2 → (K x0).1 = 5 ∧ PC l G 0 mX5_skip (0, 0) [(2, x0), (0, 280)] (n, K, F, E) (fun r μ => PW l G 62 mX5_readOrder bg 69 [(0, (2, x0))] (r.toList ++ []) μ Q)) ∧ (¬ (x1 = 2) → ((¬ x1 = 3 → (K x0).1 = 5 ∧ PC l G 0 mX5_skip (0, 0) [(2, x0), (0, 281)] (n, K, F, E) (fun r μ => PW l G 62 mX5_readOrder bg 89 [(0, (2, x0))] (r.toList ++ []) μ Q)) ∧ (x1 = 3 → (K x0).1 = 5 ∧ PC l G 0 mX5_skip (0, 0) [(2, x0), (0, 280)] (n, K, F, E) (fun r μ => PW l G 62 mX5_readOrder bg 69 [(0, (2, x0))] (r.toList ++ []) μ Q)))))) ∧ (x1 = 0 → (K x0).1 = 5 ∧ PC l G 0 mX5_skip (0, 0) [(2, x0), (0, 279)] (n, K, F, E) (fun r μ => PW l G 62 mX5_readOrder bg 21 [(0, (2, x0)), (1, (0, x1))] (r.toList ++ []) μ Q)))) ∧ (s0 = 0 → Q (some (0, 0)) (n, K, F, E)))) : PW l G 62 mX5_readOrder bg 5 [(0, (2, x0)), (1, (0, x1))] [(0, s0)] (n, K, F, E) Q := by
  refine s_if_ne (q := 8) (tgt := 10) 3 rfl rfl (fun hb => ?_) (fun hb => ?_)
  · skip
    have b1 := hb
    replace h := h.1 hb
    refine s_iload_n (q := 11) 6 1 rfl rfl ?_
    refine s_if_ne (q := 14) (tgt := 52) 7 rfl rfl (fun hb => ?_) (fun hb => ?_)
    · skip
      have b2 := hb
      replace h := h.1 hb
      refine s_iload_n (q := 53) 26 1 rfl rfl ?_
      refine s_iconst (q := 54) 27 rfl ?_
      refine s_icmp_eq (q := 57) (tgt := 62) 28 rfl rfl (fun hb => ?_) (fun hb => ?_)
      · skip
        have b3 := hb
        replace h := h.1 hb
        refine s_aload_n (q := 63) 32 0 rfl rfl ?_
        refine s_sipush (q := 66) 33 rfl ?_
        obtain ⟨c4, h⟩ := h
        refine PW.pick [0] rfl ?_
        exact n_callV (N := mX5_skip) (as := [(0, 280)]) (st := []) (q := 69) (d' := 0) 34 rfl uX5_skip kX5_57 rfl c4 h
      · skip
        have b3 := hb
        replace h := h.2 hb
        refine s_iload_n (q := 58) 29 1 rfl rfl ?_
        refine s_iconst (q := 59) 30 rfl ?_
        refine s_icmp_ne (q := 62) (tgt := 82) 31 rfl rfl (fun hb => ?_) (fun hb => ?_)
        · skip
          have b5 := hb
          replace h := h.1 hb
          refine s_aload_n (q := 83) 42 0 rfl rfl ?_
          refine s_sipush (q := 86) 43 rfl ?_
          obtain ⟨c6, h⟩ := h
          refine PW.pick [0] rfl ?_
          exact n_callV (N := mX5_skip) (as := [(0, 281)]) (st := []) (q := 89) (d' := 0) 44 rfl uX5_skip kX5_57 rfl c6 h
        · have hb := Classical.not_not.mp hb
          have b5 := hb
          replace h := h.2 hb
          refine s_aload_n (q := 63) 32 0 rfl rfl ?_
          refine s_sipush (q := 66) 33 rfl ?_
          obtain ⟨c7, h⟩ := h
          refine PW.pick [0] rfl ?_
          exact n_callV (N := mX5_skip) (as := [(0, 280)]) (st := []) (q := 69) (d' := 0) 34 rfl uX5_skip kX5_57 rfl c7 h
    · have hb := Classical.not_not.mp hb
      have b2 := hb
      replace h := h.2 hb
      refine s_aload_n (q := 15) 8 0 rfl rfl ?_
      refine s_sipush (q := 18) 9 rfl ?_
      obtain ⟨c8, h⟩ := h
      refine PW.pick [0, 1] rfl ?_
      exact n_callV (N := mX5_skip) (as := [(0, 279)]) (st := []) (q := 21) (d' := 0) 10 rfl uX5_skip kX5_57 rfl c8 h
  · have hb := Classical.not_not.mp hb
    have b1 := hb
    replace h := h.2 hb
    refine s_iconst (q := 9) 4 rfl ?_
    exact s_zret 5 rfl rfl (by decide) h
theorem vX5_readOrder_21 {l : Launch} {G : pG} {bg : Nat × Nat} {n : Nat} {K : Int → Nat × Nat} {F E : Int → Int → Int} {Q : Option pV → pM → Prop} (x0 x1 s0 : Int) (h : ((s0 = 0 → Q (some (0, 0)) (n, K, F, E)) ∧ (¬ (s0 = 0) → (K x0).1 = 5 ∧ PC l G 61 mX5_readWhole (0, 0) [(2, x0), (0, 1)] (n, K, F, E) (fun r μ => PW l G 62 mX5_readOrder bg 29 [(0, (2, x0)), (1, (0, x1))] (r.toList ++ []) μ Q)))) : PW l G 62 mX5_readOrder bg 21 [(0, (2, x0)), (1, (0, x1))] [(0, s0)] (n, K, F, E) Q := by
  refine s_if_eq (q := 24) (tgt := 50) 11 rfl rfl (fun hb => ?_) (fun hb => ?_)
  · skip
    have b1 := hb
    replace h := h.1 hb
    refine s_iconst (q := 51) 24 rfl ?_
    exact s_zret 25 rfl rfl (by decide) h
  · skip
    have b1 := hb
    replace h := h.2 hb
    refine s_aload_n (q := 25) 12 0 rfl rfl ?_
    refine s_iconst (q := 26) 13 rfl ?_
    obtain ⟨c2, h⟩ := h
    refine PW.pick [0, 1] rfl ?_
    exact n_callV (N := mX5_readWhole) (as := [(0, 1)]) (st := []) (q := 29) (d' := 61) 14 rfl uX5_readWhole kX5_67 rfl c2 h
theorem vX5_readOrder_69 {l : Launch} {G : pG} {bg : Nat × Nat} {n : Nat} {K : Int → Nat × Nat} {F E : Int → Int → Int} {Q : Option pV → pM → Prop} (x0 s0 : Int) (h : ((s0 = 0 → Q (some (0, 0)) (n, K, F, E)) ∧ (¬ (s0 = 0) → (K x0).1 = 5 ∧ PC l G 61 mX5_readWhole (0, 0) [(2, x0), (0, 1)] (n, K, F, E) (fun r μ => PW l G 62 mX5_readOrder bg 77 [(0, (2, x0))] (r.toList ++ []) μ Q)))) : PW l G 62 mX5_readOrder bg 69 [(0, (2, x0))] [(0, s0)] (n, K, F, E) Q := by
  refine s_if_eq (q := 72) (tgt := 80) 35 rfl rfl (fun hb => ?_) (fun hb => ?_)
  · skip
    have b1 := hb
    replace h := h.1 hb
    refine s_iconst (q := 81) 40 rfl ?_
    exact s_zret 41 rfl rfl (by decide) h
  · skip
    have b1 := hb
    replace h := h.2 hb
    refine s_aload_n (q := 73) 36 0 rfl rfl ?_
    refine s_iconst (q := 74) 37 rfl ?_
    obtain ⟨c2, h⟩ := h
    refine PW.pick [0] rfl ?_
    exact n_callV (N := mX5_readWhole) (as := [(0, 1)]) (st := []) (q := 77) (d' := 61) 38 rfl uX5_readWhole kX5_67 rfl c2 h
theorem vX5_readOrder_89 {l : Launch} {G : pG} {bg : Nat × Nat} {n : Nat} {K : Int → Nat × Nat} {F E : Int → Int → Int} {Q : Option pV → pM → Prop} (x0 s0 : Int) (h : ((¬ s0 = 0 → (K x0).1 = 5 ∧ PC l G 0 mX5_numberTo (0, 0) [(2, x0), (0, 20)] (n, K, F, E) (fun r μ => PW l G 62 mX5_readOrder bg 100 [(0, (2, x0))] (r.toList ++ []) μ Q)) ∧ (s0 = 0 → Q (some (0, 1)) (n, K, F, E)))) : PW l G 62 mX5_readOrder bg 89 [(0, (2, x0))] [(0, s0)] (n, K, F, E) Q := by
  refine s_if_ne (q := 92) (tgt := 94) 45 rfl rfl (fun hb => ?_) (fun hb => ?_)
  · skip
    have b1 := hb
    replace h := h.1 hb
    refine s_aload_n (q := 95) 48 0 rfl rfl ?_
    refine s_bipush (q := 97) 49 rfl ?_
    obtain ⟨c2, h⟩ := h
    refine PW.pick [0] rfl ?_
    exact n_callV (N := mX5_numberTo) (as := [(0, 20)]) (st := []) (q := 100) (d' := 0) 50 rfl uX5_numberTo kX5_86 rfl c2 h
  · have hb := Classical.not_not.mp hb
    have b1 := hb
    replace h := h.2 hb
    refine s_iconst (q := 93) 46 rfl ?_
    exact s_zret 47 rfl rfl (by decide) h
theorem vX5_readOrder_29 {l : Launch} {G : pG} {bg : Nat × Nat} {n : Nat} {K : Int → Nat × Nat} {F E : Int → Int → Int} {Q : Option pV → pM → Prop} (x0 x1 s0 : Int) (h : ((s0 = 0 → Q (some (0, 0)) (n, K, F, E)) ∧ (¬ (s0 = 0) → (K x0).1 = 5 ∧ PC l G 0 mX5_skip (0, 0) [(2, x0), (0, 284)] (n, K, F, E) (fun r μ => PW l G 62 mX5_readOrder bg 39 [(0, (2, x0)), (1, (0, x1))] (r.toList ++ []) μ Q)))) : PW l G 62 mX5_readOrder bg 29 [(0, (2, x0)), (1, (0, x1))] [(0, s0)] (n, K, F, E) Q := by
  refine s_if_eq (q := 32) (tgt := 50) 15 rfl rfl (fun hb => ?_) (fun hb => ?_)
  · skip
    have b1 := hb
    replace h := h.1 hb
    refine s_iconst (q := 51) 24 rfl ?_
    exact s_zret 25 rfl rfl (by decide) h
  · skip
    have b1 := hb
    replace h := h.2 hb
    refine s_aload_n (q := 33) 16 0 rfl rfl ?_
    refine s_sipush (q := 36) 17 rfl ?_
    obtain ⟨c2, h⟩ := h
    refine PW.pick [0, 1] rfl ?_
    exact n_callV (N := mX5_skip) (as := [(0, 284)]) (st := []) (q := 39) (d' := 0) 18 rfl uX5_skip kX5_57 rfl c2 h
theorem vX5_readOrder_77 {l : Launch} {G : pG} {bg : Nat × Nat} {n : Nat} {K : Int → Nat × Nat} {F E : Int → Int → Int} {Q : Option pV → pM → Prop} (x0 s0 : Int) (h : ((¬ s0 = 0 → (K x0).1 = 5 ∧ PC l G 0 mX5_skip (0, 0) [(2, x0), (0, 281)] (n, K, F, E) (fun r μ => PW l G 62 mX5_readOrder bg 89 [(0, (2, x0))] (r.toList ++ []) μ Q)) ∧ (s0 = 0 → Q (some (0, 0)) (n, K, F, E)))) : PW l G 62 mX5_readOrder bg 77 [(0, (2, x0))] [(0, s0)] (n, K, F, E) Q := by
  refine s_if_ne (q := 80) (tgt := 82) 39 rfl rfl (fun hb => ?_) (fun hb => ?_)
  · skip
    have b1 := hb
    replace h := h.1 hb
    refine s_aload_n (q := 83) 42 0 rfl rfl ?_
    refine s_sipush (q := 86) 43 rfl ?_
    obtain ⟨c2, h⟩ := h
    refine PW.pick [0] rfl ?_
    exact n_callV (N := mX5_skip) (as := [(0, 281)]) (st := []) (q := 89) (d' := 0) 44 rfl uX5_skip kX5_57 rfl c2 h
  · have hb := Classical.not_not.mp hb
    have b1 := hb
    replace h := h.2 hb
    refine s_iconst (q := 81) 40 rfl ?_
    exact s_zret 41 rfl rfl (by decide) h
theorem vX5_readOrder_100 {l : Launch} {G : pG} {bg : Nat × Nat} {n : Nat} {K : Int → Nat × Nat} {F E : Int → Int → Int} {Q : Option pV → pM → Prop} (x0 s0 : Int) (h : ((1 ≤ s0 → (K x0).1 = 5 ∧ (-2147483648 ≤ (F x0 4) + 1 ∧ (F x0 4) + 1 < 2147483648) ∧ (∀ F1, F1 = pUp F x0 4 ((F x0 4) + 1) → (K (F x0 1)).1 = 9 ∧ (-2147483648 ≤ (F (F x0 1) 2) - 1 ∧ (F (F x0 1) 2) - 1 < 2147483648) ∧ (-2147483648 ≤ ((F (F x0 1) 2) - 1) * 6 ∧ ((F (F x0 1) 2) - 1) * 6 < 2147483648) ∧ (-2147483648 ≤ (((F (F x0 1) 2) - 1) * 6) + 1 ∧ (((F (F x0 1) 2) - 1) * 6) + 1 < 2147483648) ∧ (0 : Int) ≤ F (F x0 1) 0 ∧ (K (F (F x0 1) 0)).1 = 20 ∧ ((0 : Int) ≤ (((F (F x0 1) 2) - 1) * 6) + 1 ∧ (((F (F x0 1) 2) - 1) * 6) + 1 < ((K (F (F x0 1) 0)).2 : Int)) ∧ (∀ E2, E2 = pUp E (F (F x0 1) 0) ((((F (F x0 1) 2) - 1) * 6) + 1) s0 → Q (some (0, 1)) (n, K, F1, E2)))) ∧ (¬ (1 ≤ s0) → Q (some (0, 0)) (n, K, F, E)))) : PW l G 62 mX5_readOrder bg 100 [(0, (2, x0))] [(0, s0)] (n, K, F, E) Q := by
  refine s_istore_n (q := 101) (lv' := [(2, (0, s0)), (0, (2, x0))]) 51 rfl rfl ?_
  refine s_iload_n (q := 102) 52 0 rfl rfl ?_
  refine s_iconst (q := 103) 53 rfl ?_
  refine s_icmp_ge (q := 106) (tgt := 108) 54 rfl rfl (fun hb => ?_) (fun hb => ?_)
  · skip
    have b1 := hb
    replace h := h.1 hb
    refine s_aload_n (q := 109) 57 1 rfl rfl ?_
    refine s_dup (q := 110) 58 rfl ?_
    obtain ⟨c2, h⟩ := h
    refine n_getf (q := 113) (jj := 4) 59 5 4 rfl kX5_33 c2 ?_
    refine s_iconst (q := 114) 60 rfl ?_
    obtain ⟨c3, h⟩ := h
    refine n_iadd (q := 115) 61 rfl c3 ?_
    refine n_putf (q := 118) (jj := 4) 62 5 4 rfl kX5_33 c2 (Or.inl rfl) ?_
    refine PW.nameF (fun F1 eF1 => ?_)
    replace h := h F1 eF1
    refine s_aload_n (q := 119) 63 1 rfl rfl ?_
    refine n_getf (q := 122) (jj := 1) 64 5 1 rfl kX5_21 c2 ?_
    refine PW.top (b := F x0 1) (by exact (congrFun (congrFun eF1 _) _).trans (pUp_k (by decide))) ?_
    refine s_aload_n (q := 123) 65 1 rfl rfl ?_
    refine n_getf (q := 126) (jj := 1) 66 5 1 rfl kX5_21 c2 ?_
    refine PW.top (b := F x0 1) (by exact (congrFun (congrFun eF1 _) _).trans (pUp_k (by decide))) ?_
    obtain ⟨c4, h⟩ := h
    refine n_getf (q := 129) (jj := 2) 67 9 2 rfl kX5_36 c4 ?_
    refine PW.top (b := F (F x0 1) 2) (by exact (congrFun (congrFun eF1 _) _).trans (pUp_K c2 c4 (by decide))) ?_
    refine s_iconst (q := 130) 68 rfl ?_
    obtain ⟨c5, h⟩ := h
    refine n_isub (q := 131) 69 rfl c5 ?_
    refine s_iconst (q := 132) 70 rfl ?_
    refine s_iload_n (q := 133) 71 0 rfl rfl ?_
    refine n_callV (N := mX9_setPart) (as := [(0, (F (F x0 1) 2) - 1), (0, 1), (0, s0)]) (st := []) (q := 136) (d' := 0) 72 rfl uX9_setPart kX5_73 rfl c4 ?_
    show PW l G 0 mX9_setPart (0, 0) 0 [(0, (2, F x0 1)), (1, (0, (F (F x0 1) 2) - 1)), (2, (0, 1)), (3, (0, s0))] [] (n, K, F1, E) _
    refine s_aload_n (q := 1) 0 0 rfl rfl ?_
    refine n_getf (q := 4) (jj := 0) 1 9 0 rfl kX9_11 c4 ?_
    refine PW.top (b := F (F x0 1) 0) (by exact (congrFun (congrFun eF1 _) _).trans (pUp_K c2 c4 (by decide))) ?_
    refine s_iload_n (q := 5) 2 1 rfl rfl ?_
    refine s_bipush (q := 7) 3 rfl ?_
    obtain ⟨c6, h⟩ := h
    refine n_imul (q := 8) 4 rfl c6 ?_
    refine s_iload_n (q := 9) 5 2 rfl rfl ?_
    obtain ⟨c7, h⟩ := h
    refine n_iadd (q := 10) 6 rfl c7 ?_
    refine s_iload_n (q := 11) 7 3 rfl rfl ?_
    obtain ⟨c8, h⟩ := h
    obtain ⟨c9, h⟩ := h
    obtain ⟨c10, h⟩ := h
    refine n_iast (q := 12) 8 rfl c8 c9 c10 ?_
    refine PW.nameE (fun E2 eE2 => ?_)
    replace h := h E2 eE2
    refine s_vret 9 rfl rfl ?_
    show PW l G 62 mX5_readOrder bg 136 [(2, (0, s0)), (0, (2, x0))] [] (n, K, F1, E2) Q
    refine s_iconst (q := 137) 73 rfl ?_
    exact s_zret 74 rfl rfl (by decide) h
  · skip
    have b1 := hb
    replace h := h.2 hb
    refine s_iconst (q := 107) 55 rfl ?_
    exact s_zret 56 rfl rfl (by decide) h
theorem vX5_readOrder_39 {l : Launch} {G : pG} {bg : Nat × Nat} {n : Nat} {K : Int → Nat × Nat} {F E : Int → Int → Int} {Q : Option pV → pM → Prop} (x0 x1 s0 : Int) (h : ((s0 = 0 → Q (some (0, 0)) (n, K, F, E)) ∧ (¬ (s0 = 0) → (K x0).1 = 5 ∧ PC l G 61 mX5_readWhole (0, 0) [(2, x0), (0, 2)] (n, K, F, E) (fun r μ => PW l G 62 mX5_readOrder bg 47 [(0, (2, x0)), (1, (0, x1))] (r.toList ++ []) μ Q)))) : PW l G 62 mX5_readOrder bg 39 [(0, (2, x0)), (1, (0, x1))] [(0, s0)] (n, K, F, E) Q := by
  refine s_if_eq (q := 42) (tgt := 50) 19 rfl rfl (fun hb => ?_) (fun hb => ?_)
  · skip
    have b1 := hb
    replace h := h.1 hb
    refine s_iconst (q := 51) 24 rfl ?_
    exact s_zret 25 rfl rfl (by decide) h
  · skip
    have b1 := hb
    replace h := h.2 hb
    refine s_aload_n (q := 43) 20 0 rfl rfl ?_
    refine s_iconst (q := 44) 21 rfl ?_
    obtain ⟨c2, h⟩ := h
    refine PW.pick [0, 1] rfl ?_
    exact n_callV (N := mX5_readWhole) (as := [(0, 2)]) (st := []) (q := 47) (d' := 61) 22 rfl uX5_readWhole kX5_67 rfl c2 h
theorem vX5_readOrder_47 {l : Launch} {G : pG} {bg : Nat × Nat} {n : Nat} {K : Int → Nat × Nat} {F E : Int → Int → Int} {Q : Option pV → pM → Prop} (x0 x1 s0 : Int) (h : ((¬ s0 = 0 → ((x1 = 2 → (K x0).1 = 5 ∧ PC l G 0 mX5_skip (0, 0) [(2, x0), (0, 280)] (n, K, F, E) (fun r μ => PW l G 62 mX5_readOrder bg 69 [(0, (2, x0))] (r.toList ++ []) μ Q)) ∧ (¬ (x1 = 2) → ((¬ x1 = 3 → (K x0).1 = 5 ∧ PC l G 0 mX5_skip (0, 0) [(2, x0), (0, 281)] (n, K, F, E) (fun r μ => PW l G 62 mX5_readOrder bg 89 [(0, (2, x0))] (r.toList ++ []) μ Q)) ∧ (x1 = 3 → (K x0).1 = 5 ∧ PC l G 0 mX5_skip (0, 0) [(2, x0), (0, 280)] (n, K, F, E) (fun r μ => PW l G 62 mX5_readOrder bg 69 [(0, (2, x0))] (r.toList ++ []) μ Q)))))) ∧ (s0 = 0 → Q (some (0, 0)) (n, K, F, E)))) : PW l G 62 mX5_readOrder bg 47 [(0, (2, x0)), (1, (0, x1))] [(0, s0)] (n, K, F, E) Q := by
  refine s_if_ne (q := 50) (tgt := 52) 23 rfl rfl (fun hb => ?_) (fun hb => ?_)
  · skip
    have b1 := hb
    replace h := h.1 hb
    refine s_iload_n (q := 53) 26 1 rfl rfl ?_
    refine s_iconst (q := 54) 27 rfl ?_
    refine s_icmp_eq (q := 57) (tgt := 62) 28 rfl rfl (fun hb => ?_) (fun hb => ?_)
    · skip
      have b2 := hb
      replace h := h.1 hb
      refine s_aload_n (q := 63) 32 0 rfl rfl ?_
      refine s_sipush (q := 66) 33 rfl ?_
      obtain ⟨c3, h⟩ := h
      refine PW.pick [0] rfl ?_
      exact n_callV (N := mX5_skip) (as := [(0, 280)]) (st := []) (q := 69) (d' := 0) 34 rfl uX5_skip kX5_57 rfl c3 h
    · skip
      have b2 := hb
      replace h := h.2 hb
      refine s_iload_n (q := 58) 29 1 rfl rfl ?_
      refine s_iconst (q := 59) 30 rfl ?_
      refine s_icmp_ne (q := 62) (tgt := 82) 31 rfl rfl (fun hb => ?_) (fun hb => ?_)
      · skip
        have b4 := hb
        replace h := h.1 hb
        refine s_aload_n (q := 83) 42 0 rfl rfl ?_
        refine s_sipush (q := 86) 43 rfl ?_
        obtain ⟨c5, h⟩ := h
        refine PW.pick [0] rfl ?_
        exact n_callV (N := mX5_skip) (as := [(0, 281)]) (st := []) (q := 89) (d' := 0) 44 rfl uX5_skip kX5_57 rfl c5 h
      · have hb := Classical.not_not.mp hb
        have b4 := hb
        replace h := h.2 hb
        refine s_aload_n (q := 63) 32 0 rfl rfl ?_
        refine s_sipush (q := 66) 33 rfl ?_
        obtain ⟨c6, h⟩ := h
        refine PW.pick [0] rfl ?_
        exact n_callV (N := mX5_skip) (as := [(0, 280)]) (st := []) (q := 69) (d' := 0) 34 rfl uX5_skip kX5_57 rfl c6 h
  · have hb := Classical.not_not.mp hb
    have b1 := hb
    replace h := h.2 hb
    refine s_iconst (q := 51) 24 rfl ?_
    exact s_zret 25 rfl rfl (by decide) h
theorem vX5_readWhole_0 {l : Launch} {G : pG} {bg : Nat × Nat} {n : Nat} {K : Int → Nat × Nat} {F E : Int → Int → Int} {Q : Option pV → pM → Prop} (x0 x1 : Int) (h : (K x0).1 = 5 ∧ (K (F x0 1)).1 = 9 ∧ (-2147483648 ≤ (F (F x0 1) 2) - 1 ∧ (F (F x0 1) 2) - 1 < 2147483648) ∧ (-2147483648 ≤ 3 + x1 ∧ 3 + x1 < 2147483648) ∧ (-2147483648 ≤ ((F (F x0 1) 2) - 1) * 6 ∧ ((F (F x0 1) 2) - 1) * 6 < 2147483648) ∧ (-2147483648 ≤ (((F (F x0 1) 2) - 1) * 6) + (3 + x1) ∧ (((F (F x0 1) 2) - 1) * 6) + (3 + x1) < 2147483648) ∧ (0 : Int) ≤ F (F x0 1) 0 ∧ (K (F (F x0 1) 0)).1 = 20 ∧ ((0 : Int) ≤ (((F (F x0 1) 2) - 1) * 6) + (3 + x1) ∧ (((F (F x0 1) 2) - 1) * 6) + (3 + x1) < ((K (F (F x0 1) 0)).2 : Int)) ∧ (∀ E1, E1 = pUp E (F (F x0 1) 0) ((((F (F x0 1) 2) - 1) * 6) + (3 + x1)) (F (F x0 1) 3) → PC l G 60 mX5_readSum (0, 0) [(2, x0), (0, 0)] (n, K, F, E1) (fun r μ => PW l G 61 mX5_readWhole bg 31 [(0, (2, x0))] (r.toList ++ []) μ Q))) : PW l G 61 mX5_readWhole bg 0 [(0, (2, x0)), (1, (0, x1))] [] (n, K, F, E) Q := by
  refine s_aload_n (q := 1) 0 0 rfl rfl ?_
  obtain ⟨c1, h⟩ := h
  refine n_getf (q := 4) (jj := 1) 1 5 1 rfl kX5_21 c1 ?_
  refine s_aload_n (q := 5) 2 0 rfl rfl ?_
  refine n_getf (q := 8) (jj := 1) 3 5 1 rfl kX5_21 c1 ?_
  obtain ⟨c2, h⟩ := h
  refine n_getf (q := 11) (jj := 2) 4 9 2 rfl kX5_36 c2 ?_
  refine s_iconst (q := 12) 5 rfl ?_
  obtain ⟨c3, h⟩ := h
  refine n_isub (q := 13) 6 rfl c3 ?_
  refine s_iconst (q := 14) 7 rfl ?_
  refine s_iload_n (q := 15) 8 1 rfl rfl ?_
  obtain ⟨c4, h⟩ := h
  refine n_iadd (q := 16) 9 rfl c4 ?_
  refine s_aload_n (q := 17) 10 0 rfl rfl ?_
  refine n_getf (q := 20) (jj := 1) 11 5 1 rfl kX5_21 c1 ?_
  refine n_getf (q := 23) (jj := 3) 12 9 3 rfl kX5_39 c2 ?_
  refine n_callV (N := mX9_setPart) (as := [(0, (F (F x0 1) 2) - 1), (0, 3 + x1), (0, F (F x0 1) 3)]) (st := []) (q := 26) (d' := 0) 13 rfl uX9_setPart kX5_73 rfl c2 ?_
  show PW l G 0 mX9_setPart (0, 0) 0 [(0, (2, F x0 1)), (1, (0, (F (F x0 1) 2) - 1)), (2, (0, 3 + x1)), (3, (0, F (F x0 1) 3))] [] (n, K, F, E) _
  refine s_aload_n (q := 1) 0 0 rfl rfl ?_
  refine n_getf (q := 4) (jj := 0) 1 9 0 rfl kX9_11 c2 ?_
  refine s_iload_n (q := 5) 2 1 rfl rfl ?_
  refine s_bipush (q := 7) 3 rfl ?_
  obtain ⟨c5, h⟩ := h
  refine n_imul (q := 8) 4 rfl c5 ?_
  refine s_iload_n (q := 9) 5 2 rfl rfl ?_
  obtain ⟨c6, h⟩ := h
  refine n_iadd (q := 10) 6 rfl c6 ?_
  refine s_iload_n (q := 11) 7 3 rfl rfl ?_
  obtain ⟨c7, h⟩ := h
  obtain ⟨c8, h⟩ := h
  obtain ⟨c9, h⟩ := h
  refine n_iast (q := 12) 8 rfl c7 c8 c9 ?_
  refine PW.nameE (fun E1 eE1 => ?_)
  replace h := h E1 eE1
  refine s_vret 9 rfl rfl ?_
  show PW l G 61 mX5_readWhole bg 26 [(0, (2, x0)), (1, (0, x1))] [] (n, K, F, E1) Q
  refine s_aload_n (q := 27) 14 0 rfl rfl ?_
  refine s_iconst (q := 28) 15 rfl ?_
  refine PW.pick [0] rfl ?_
  exact n_callV (N := mX5_readSum) (as := [(0, 0)]) (st := []) (q := 31) (d' := 60) 16 rfl uX5_readSum kX5_90 rfl c1 h
theorem vX5_readWhole_31 {l : Launch} {G : pG} {bg : Nat × Nat} {n : Nat} {K : Int → Nat × Nat} {F E : Int → Int → Int} {Q : Option pV → pM → Prop} (x0 s0 : Int) (h : ((¬ s0 = 0 → (K x0).1 = 5 ∧ (K (F x0 1)).1 = 9 ∧ PC l G 0 mX9_emit (0, 0) [(2, F x0 1), (0, 0), (0, 0)] (n, K, F, E) (fun r μ => PW l G 61 mX5_readWhole bg 45 [] (r.toList ++ []) μ Q)) ∧ (s0 = 0 → Q (some (0, 0)) (n, K, F, E)))) : PW l G 61 mX5_readWhole bg 31 [(0, (2, x0))] [(0, s0)] (n, K, F, E) Q := by
  refine s_if_ne (q := 34) (tgt := 36) 17 rfl rfl (fun hb => ?_) (fun hb => ?_)
  · skip
    have b1 := hb
    replace h := h.1 hb
    refine s_aload_n (q := 37) 20 0 rfl rfl ?_
    obtain ⟨c2, h⟩ := h
    refine n_getf (q := 40) (jj := 1) 21 5 1 rfl kX5_21 c2 ?_
    refine s_iconst (q := 41) 22 rfl ?_
    refine s_iconst (q := 42) 23 rfl ?_
    obtain ⟨c3, h⟩ := h
    refine PW.pick [] rfl ?_
    exact n_callV (N := mX9_emit) (as := [(0, 0), (0, 0)]) (st := []) (q := 45) (d' := 0) 24 rfl uX9_emit kX5_82 rfl c3 h
  · have hb := Classical.not_not.mp hb
    have b1 := hb
    replace h := h.2 hb
    refine s_iconst (q := 35) 18 rfl ?_
    exact s_zret 19 rfl rfl (by decide) h
theorem vX5_readWhole_45 {l : Launch} {G : pG} {bg : Nat × Nat} {n : Nat} {K : Int → Nat × Nat} {F E : Int → Int → Int} {Q : Option pV → pM → Prop} (s0 : Int) (h : Q (some (0, 1)) (n, K, F, E)) : PW l G 61 mX5_readWhole bg 45 [] [(0, s0)] (n, K, F, E) Q := by
  refine s_pop (q := 46) 25 rfl ?_
  refine s_iconst (q := 47) 26 rfl ?_
  exact s_zret 27 rfl rfl (by decide) h
theorem vX5_readTest_0 {l : Launch} {G : pG} {d e : Nat} (hd : e + 1 ≤ d) (hB : 12 ≤ d) {bg : Nat × Nat} {n : Nat} {K : Int → Nat × Nat} {F E : Int → Int → Int} {Q : Option pV → pM → Prop} (x0 x1 : Int) (h : (K x0).1 = 5 ∧ PC l G e mX5_readBoth (0, 0) [(2, x0), (0, x1)] (n, K, F, E) (fun r μ => PW l G d mX5_readTest bg 5 [(0, (2, x0)), (1, (0, x1))] (r.toList ++ []) μ Q)) : PW l G d mX5_readTest bg 0 [(0, (2, x0)), (1, (0, x1))] [] (n, K, F, E) Q := by
  refine s_aload_n (q := 1) 0 0 rfl rfl ?_
  refine s_iload_n (q := 2) 1 1 rfl rfl ?_
  obtain ⟨c1, h⟩ := h
  refine PW.pick [0, 1] rfl ?_
  exact n_callV (N := mX5_readBoth) (as := [(0, x1)]) (st := []) (q := 5) (d' := e) 2 rfl uX5_readBoth kX5_93 rfl c1 h (hd := by omega)
theorem vX5_readTest_5 {l : Launch} {G : pG} {d e : Nat} (hd : e + 1 ≤ d) (hB : 12 ≤ d) {bg : Nat × Nat} {n : Nat} {K : Int → Nat × Nat} {F E : Int → Int → Int} {Q : Option pV → pM → Prop} (x0 x1 s0 : Int) (h : ((¬ s0 = 0 → PW l G d mX5_readTest bg 12 [(0, (2, x0)), (1, (0, x1)), (2, (0, 0))] [] (n, K, F, E) Q) ∧ (s0 = 0 → Q (some (0, 0)) (n, K, F, E)))) : PW l G d mX5_readTest bg 5 [(0, (2, x0)), (1, (0, x1))] [(0, s0)] (n, K, F, E) Q := by
  refine s_if_ne (q := 8) (tgt := 10) 3 rfl rfl (fun hb => ?_) (fun hb => ?_)
  · skip
    have b1 := hb
    replace h := h.1 hb
    refine s_iconst (q := 11) 6 rfl ?_
    refine s_istore_n (q := 12) (lv' := [(2, (0, 0)), (0, (2, x0)), (1, (0, x1))]) 7 rfl rfl ?_
    refine PW.pick [1, 2, 0] rfl ?_
    exact h
  · have hb := Classical.not_not.mp hb
    have b1 := hb
    replace h := h.2 hb
    refine s_iconst (q := 9) 4 rfl ?_
    exact s_zret 5 rfl rfl (by decide) h
theorem vX5_readTest_12 {l : Launch} {G : pG} {d e : Nat} (hd : e + 1 ≤ d) (hB : 12 ≤ d) {bg : Nat × Nat} {n : Nat} {K : Int → Nat × Nat} {F E : Int → Int → Int} {Q : Option pV → pM → Prop} (x0 x1 x2 : Int) (h : ((400 ≤ x2 → Q (some (0, 1)) (n, K, F, E)) ∧ (¬ (400 ≤ x2) → (K x0).1 = 5 ∧ PC l G 0 mX5_skip (0, 0) [(2, x0), (0, 283)] (n, K, F, E) (fun r μ => PW l G d mX5_readTest bg 26 [(0, (2, x0)), (1, (0, x1)), (2, (0, x2))] (r.toList ++ []) μ Q)))) : PW l G d mX5_readTest bg 12 [(0, (2, x0)), (1, (0, x1)), (2, (0, x2))] [] (n, K, F, E) Q := by
  refine s_iload_n (q := 13) 8 2 rfl rfl ?_
  refine s_sipush (q := 16) 9 rfl ?_
  refine s_icmp_ge (q := 19) (tgt := 63) 10 rfl rfl (fun hb => ?_) (fun hb => ?_)
  · skip
    have b1 := hb
    replace h := h.1 hb
    refine s_iconst (q := 64) 33 rfl ?_
    exact s_zret 34 rfl rfl (by decide) h
  · skip
    have b1 := hb
    replace h := h.2 hb
    refine s_aload_n (q := 20) 11 0 rfl rfl ?_
    refine s_sipush (q := 23) 12 rfl ?_
    obtain ⟨c2, h⟩ := h
    refine PW.pick [0, 1, 2] rfl ?_
    exact n_callV (N := mX5_skip) (as := [(0, 283)]) (st := []) (q := 26) (d' := 0) 13 rfl uX5_skip kX5_57 rfl c2 h (hd := by omega)
theorem vX5_readTest_26 {l : Launch} {G : pG} {d e : Nat} (hd : e + 1 ≤ d) (hB : 12 ≤ d) {bg : Nat × Nat} {n : Nat} {K : Int → Nat × Nat} {F E : Int → Int → Int} {Q : Option pV → pM → Prop} (x0 x1 x2 s0 : Int) (h : ((s0 = 0 → Q (some (0, 1)) (n, K, F, E)) ∧ (¬ (s0 = 0) → (K x0).1 = 5 ∧ (K (F x0 1)).1 = 9 ∧ PC l G 0 mX9_emit (0, 0) [(2, F x0 1), (0, 4), (0, 0)] (n, K, F, E) (fun r μ => PW l G d mX5_readTest bg 38 [(0, (2, x0)), (1, (0, x1)), (2, (0, x2))] (r.toList ++ []) μ Q)))) : PW l G d mX5_readTest bg 26 [(0, (2, x0)), (1, (0, x1)), (2, (0, x2))] [(0, s0)] (n, K, F, E) Q := by
  refine s_if_eq (q := 29) (tgt := 63) 14 rfl rfl (fun hb => ?_) (fun hb => ?_)
  · skip
    have b1 := hb
    replace h := h.1 hb
    refine s_iconst (q := 64) 33 rfl ?_
    exact s_zret 34 rfl rfl (by decide) h
  · skip
    have b1 := hb
    replace h := h.2 hb
    refine s_aload_n (q := 30) 15 0 rfl rfl ?_
    obtain ⟨c2, h⟩ := h
    refine n_getf (q := 33) (jj := 1) 16 5 1 rfl kX5_21 c2 ?_
    refine s_iconst (q := 34) 17 rfl ?_
    refine s_iconst (q := 35) 18 rfl ?_
    obtain ⟨c3, h⟩ := h
    refine PW.pick [0, 1, 2] rfl ?_
    exact n_callV (N := mX9_emit) (as := [(0, 4), (0, 0)]) (st := []) (q := 38) (d' := 0) 19 rfl uX9_emit kX5_82 rfl c3 h (hd := by omega)
theorem vX5_readTest_38 {l : Launch} {G : pG} {d e : Nat} (hd : e + 1 ≤ d) (hB : 12 ≤ d) {bg : Nat × Nat} {n : Nat} {K : Int → Nat × Nat} {F E : Int → Int → Int} {Q : Option pV → pM → Prop} (x0 x1 x2 s0 : Int) (h : (K x0).1 = 5 ∧ PC l G e mX5_readBoth (0, 0) [(2, x0), (0, x1)] (n, K, F, E) (fun r μ => PW l G d mX5_readTest bg 44 [(0, (2, x0)), (1, (0, x1)), (2, (0, x2)), (3, (0, s0))] (r.toList ++ []) μ Q)) : PW l G d mX5_readTest bg 38 [(0, (2, x0)), (1, (0, x1)), (2, (0, x2))] [(0, s0)] (n, K, F, E) Q := by
  refine s_istore_n (q := 39) (lv' := [(3, (0, s0)), (0, (2, x0)), (1, (0, x1)), (2, (0, x2))]) 20 rfl rfl ?_
  refine s_aload_n (q := 40) 21 1 rfl rfl ?_
  refine s_iload_n (q := 41) 22 2 rfl rfl ?_
  obtain ⟨c1, h⟩ := h
  refine PW.pick [1, 2, 3, 0] rfl ?_
  exact n_callV (N := mX5_readBoth) (as := [(0, x1)]) (st := []) (q := 44) (d' := e) 23 rfl uX5_readBoth kX5_93 rfl c1 h (hd := by omega)
theorem vX5_readTest_44 {l : Launch} {G : pG} {d e : Nat} (hd : e + 1 ≤ d) (hB : 12 ≤ d) {bg : Nat × Nat} {n : Nat} {K : Int → Nat × Nat} {F E : Int → Int → Int} {Q : Option pV → pM → Prop} (x0 x1 x2 x3 s0 : Int) (h : ((¬ s0 = 0 → (K x0).1 = 5 ∧ (K (F x0 1)).1 = 9 ∧ PC l G 0 mX9_landLeap (0, 0) [(2, F x0 1), (0, x3)] (n, K, F, E) (fun r μ => PW l G d mX5_readTest bg 57 [(0, (2, x0)), (1, (0, x1)), (2, (0, x2))] (r.toList ++ []) μ Q)) ∧ (s0 = 0 → Q (some (0, 0)) (n, K, F, E)))) : PW l G d mX5_readTest bg 44 [(0, (2, x0)), (1, (0, x1)), (2, (0, x2)), (3, (0, x3))] [(0, s0)] (n, K, F, E) Q := by
  refine s_if_ne (q := 47) (tgt := 49) 24 rfl rfl (fun hb => ?_) (fun hb => ?_)
  · skip
    have b1 := hb
    replace h := h.1 hb
    refine s_aload_n (q := 50) 27 0 rfl rfl ?_
    obtain ⟨c2, h⟩ := h
    refine n_getf (q := 53) (jj := 1) 28 5 1 rfl kX5_21 c2 ?_
    refine s_iload_n (q := 54) 29 3 rfl rfl ?_
    obtain ⟨c3, h⟩ := h
    refine PW.pick [0, 1, 2] rfl ?_
    exact n_callV (N := mX9_landLeap) (as := [(0, x3)]) (st := []) (q := 57) (d' := 0) 30 rfl uX9_landLeap kX5_96 rfl c3 h (hd := by omega)
  · have hb := Classical.not_not.mp hb
    have b1 := hb
    replace h := h.2 hb
    refine s_iconst (q := 48) 25 rfl ?_
    exact s_zret 26 rfl rfl (by decide) h
theorem vX5_readTest_57 {l : Launch} {G : pG} {d e : Nat} (hd : e + 1 ≤ d) (hB : 12 ≤ d) {bg : Nat × Nat} {n : Nat} {K : Int → Nat × Nat} {F E : Int → Int → Int} {Q : Option pV → pM → Prop} (x0 x1 x2 : Int) (h : (-2147483648 ≤ x2 + 1 ∧ x2 + 1 < 2147483648) ∧ PW l G d mX5_readTest bg 12 [(0, (2, x0)), (1, (0, x1)), (2, (0, x2 + 1))] [] (n, K, F, E) Q) : PW l G d mX5_readTest bg 57 [(0, (2, x0)), (1, (0, x1)), (2, (0, x2))] [] (n, K, F, E) Q := by
  obtain ⟨c1, h⟩ := h
  refine n_iinc (q := 60) (lv' := [(2, (0, x2 + 1)), (0, (2, x0)), (1, (0, x1))]) 31 2 rfl rfl c1 rfl ?_
  refine s_goto (tgt := 12) 32 rfl rfl ?_
  refine PW.pick [1, 2, 0] rfl ?_
  exact h
theorem vX5_readBoth_0 {l : Launch} {G : pG} {d e : Nat} (hd : e + 1 ≤ d) (hB : 12 ≤ d) {bg : Nat × Nat} {n : Nat} {K : Int → Nat × Nat} {F E : Int → Int → Int} {Q : Option pV → pM → Prop} (x0 x1 : Int) (h : (K x0).1 = 5 ∧ PC l G e mX5_readPlain (0, 0) [(2, x0), (0, x1)] (n, K, F, E) (fun r μ => PW l G d mX5_readBoth bg 5 [(0, (2, x0)), (1, (0, x1))] (r.toList ++ []) μ Q)) : PW l G d mX5_readBoth bg 0 [(0, (2, x0)), (1, (0, x1))] [] (n, K, F, E) Q := by
  refine s_aload_n (q := 1) 0 0 rfl rfl ?_
  refine s_iload_n (q := 2) 1 1 rfl rfl ?_
  obtain ⟨c1, h⟩ := h
  refine PW.pick [0, 1] rfl ?_
  exact n_callV (N := mX5_readPlain) (as := [(0, x1)]) (st := []) (q := 5) (d' := e) 2 rfl uX5_readPlain kX5_99 rfl c1 h (hd := by omega)
theorem vX5_readBoth_5 {l : Launch} {G : pG} {d e : Nat} (hd : e + 1 ≤ d) (hB : 12 ≤ d) {bg : Nat × Nat} {n : Nat} {K : Int → Nat × Nat} {F E : Int → Int → Int} {Q : Option pV → pM → Prop} (x0 x1 s0 : Int) (h : ((¬ s0 = 0 → PW l G d mX5_readBoth bg 12 [(0, (2, x0)), (1, (0, x1)), (2, (0, 0))] [] (n, K, F, E) Q) ∧ (s0 = 0 → Q (some (0, 0)) (n, K, F, E)))) : PW l G d mX5_readBoth bg 5 [(0, (2, x0)), (1, (0, x1))] [(0, s0)] (n, K, F, E) Q := by
  refine s_if_ne (q := 8) (tgt := 10) 3 rfl rfl (fun hb => ?_) (fun hb => ?_)
  · skip
    have b1 := hb
    replace h := h.1 hb
    refine s_iconst (q := 11) 6 rfl ?_
    refine s_istore_n (q := 12) (lv' := [(2, (0, 0)), (0, (2, x0)), (1, (0, x1))]) 7 rfl rfl ?_
    refine PW.pick [1, 2, 0] rfl ?_
    exact h
  · have hb := Classical.not_not.mp hb
    have b1 := hb
    replace h := h.2 hb
    refine s_iconst (q := 9) 4 rfl ?_
    exact s_zret 5 rfl rfl (by decide) h
theorem vX5_readBoth_12 {l : Launch} {G : pG} {d e : Nat} (hd : e + 1 ≤ d) (hB : 12 ≤ d) {bg : Nat × Nat} {n : Nat} {K : Int → Nat × Nat} {F E : Int → Int → Int} {Q : Option pV → pM → Prop} (x0 x1 x2 : Int) (h : ((400 ≤ x2 → Q (some (0, 1)) (n, K, F, E)) ∧ (¬ (400 ≤ x2) → (K x0).1 = 5 ∧ PC l G 0 mX5_skip (0, 0) [(2, x0), (0, 284)] (n, K, F, E) (fun r μ => PW l G d mX5_readBoth bg 26 [(0, (2, x0)), (1, (0, x1)), (2, (0, x2))] (r.toList ++ []) μ Q)))) : PW l G d mX5_readBoth bg 12 [(0, (2, x0)), (1, (0, x1)), (2, (0, x2))] [] (n, K, F, E) Q := by
  refine s_iload_n (q := 13) 8 2 rfl rfl ?_
  refine s_sipush (q := 16) 9 rfl ?_
  refine s_icmp_ge (q := 19) (tgt := 63) 10 rfl rfl (fun hb => ?_) (fun hb => ?_)
  · skip
    have b1 := hb
    replace h := h.1 hb
    refine s_iconst (q := 64) 33 rfl ?_
    exact s_zret 34 rfl rfl (by decide) h
  · skip
    have b1 := hb
    replace h := h.2 hb
    refine s_aload_n (q := 20) 11 0 rfl rfl ?_
    refine s_sipush (q := 23) 12 rfl ?_
    obtain ⟨c2, h⟩ := h
    refine PW.pick [0, 1, 2] rfl ?_
    exact n_callV (N := mX5_skip) (as := [(0, 284)]) (st := []) (q := 26) (d' := 0) 13 rfl uX5_skip kX5_57 rfl c2 h (hd := by omega)
theorem vX5_readBoth_26 {l : Launch} {G : pG} {d e : Nat} (hd : e + 1 ≤ d) (hB : 12 ≤ d) {bg : Nat × Nat} {n : Nat} {K : Int → Nat × Nat} {F E : Int → Int → Int} {Q : Option pV → pM → Prop} (x0 x1 x2 s0 : Int) (h : ((s0 = 0 → Q (some (0, 1)) (n, K, F, E)) ∧ (¬ (s0 = 0) → (K x0).1 = 5 ∧ (K (F x0 1)).1 = 9 ∧ PC l G 0 mX9_emit (0, 0) [(2, F x0 1), (0, 5), (0, 0)] (n, K, F, E) (fun r μ => PW l G d mX5_readBoth bg 38 [(0, (2, x0)), (1, (0, x1)), (2, (0, x2))] (r.toList ++ []) μ Q)))) : PW l G d mX5_readBoth bg 26 [(0, (2, x0)), (1, (0, x1)), (2, (0, x2))] [(0, s0)] (n, K, F, E) Q := by
  refine s_if_eq (q := 29) (tgt := 63) 14 rfl rfl (fun hb => ?_) (fun hb => ?_)
  · skip
    have b1 := hb
    replace h := h.1 hb
    refine s_iconst (q := 64) 33 rfl ?_
    exact s_zret 34 rfl rfl (by decide) h
  · skip
    have b1 := hb
    replace h := h.2 hb
    refine s_aload_n (q := 30) 15 0 rfl rfl ?_
    obtain ⟨c2, h⟩ := h
    refine n_getf (q := 33) (jj := 1) 16 5 1 rfl kX5_21 c2 ?_
    refine s_iconst (q := 34) 17 rfl ?_
    refine s_iconst (q := 35) 18 rfl ?_
    obtain ⟨c3, h⟩ := h
    refine PW.pick [0, 1, 2] rfl ?_
    exact n_callV (N := mX9_emit) (as := [(0, 5), (0, 0)]) (st := []) (q := 38) (d' := 0) 19 rfl uX9_emit kX5_82 rfl c3 h (hd := by omega)
theorem vX5_readBoth_38 {l : Launch} {G : pG} {d e : Nat} (hd : e + 1 ≤ d) (hB : 12 ≤ d) {bg : Nat × Nat} {n : Nat} {K : Int → Nat × Nat} {F E : Int → Int → Int} {Q : Option pV → pM → Prop} (x0 x1 x2 s0 : Int) (h : (K x0).1 = 5 ∧ PC l G e mX5_readPlain (0, 0) [(2, x0), (0, x1)] (n, K, F, E) (fun r μ => PW l G d mX5_readBoth bg 44 [(0, (2, x0)), (1, (0, x1)), (2, (0, x2)), (3, (0, s0))] (r.toList ++ []) μ Q)) : PW l G d mX5_readBoth bg 38 [(0, (2, x0)), (1, (0, x1)), (2, (0, x2))] [(0, s0)] (n, K, F, E) Q := by
  refine s_istore_n (q := 39) (lv' := [(3, (0, s0)), (0, (2, x0)), (1, (0, x1)), (2, (0, x2))]) 20 rfl rfl ?_
  refine s_aload_n (q := 40) 21 1 rfl rfl ?_
  refine s_iload_n (q := 41) 22 2 rfl rfl ?_
  obtain ⟨c1, h⟩ := h
  refine PW.pick [1, 2, 3, 0] rfl ?_
  exact n_callV (N := mX5_readPlain) (as := [(0, x1)]) (st := []) (q := 44) (d' := e) 23 rfl uX5_readPlain kX5_99 rfl c1 h (hd := by omega)
theorem vX5_readBoth_44 {l : Launch} {G : pG} {d e : Nat} (hd : e + 1 ≤ d) (hB : 12 ≤ d) {bg : Nat × Nat} {n : Nat} {K : Int → Nat × Nat} {F E : Int → Int → Int} {Q : Option pV → pM → Prop} (x0 x1 x2 x3 s0 : Int) (h : ((¬ s0 = 0 → (K x0).1 = 5 ∧ (K (F x0 1)).1 = 9 ∧ PC l G 0 mX9_landLeap (0, 0) [(2, F x0 1), (0, x3)] (n, K, F, E) (fun r μ => PW l G d mX5_readBoth bg 57 [(0, (2, x0)), (1, (0, x1)), (2, (0, x2))] (r.toList ++ []) μ Q)) ∧ (s0 = 0 → Q (some (0, 0)) (n, K, F, E)))) : PW l G d mX5_readBoth bg 44 [(0, (2, x0)), (1, (0, x1)), (2, (0, x2)), (3, (0, x3))] [(0, s0)] (n, K, F, E) Q := by
  refine s_if_ne (q := 47) (tgt := 49) 24 rfl rfl (fun hb => ?_) (fun hb => ?_)
  · skip
    have b1 := hb
    replace h := h.1 hb
    refine s_aload_n (q := 50) 27 0 rfl rfl ?_
    obtain ⟨c2, h⟩ := h
    refine n_getf (q := 53) (jj := 1) 28 5 1 rfl kX5_21 c2 ?_
    refine s_iload_n (q := 54) 29 3 rfl rfl ?_
    obtain ⟨c3, h⟩ := h
    refine PW.pick [0, 1, 2] rfl ?_
    exact n_callV (N := mX9_landLeap) (as := [(0, x3)]) (st := []) (q := 57) (d' := 0) 30 rfl uX9_landLeap kX5_96 rfl c3 h (hd := by omega)
  · have hb := Classical.not_not.mp hb
    have b1 := hb
    replace h := h.2 hb
    refine s_iconst (q := 48) 25 rfl ?_
    exact s_zret 26 rfl rfl (by decide) h
theorem vX5_readBoth_57 {l : Launch} {G : pG} {d e : Nat} (hd : e + 1 ≤ d) (hB : 12 ≤ d) {bg : Nat × Nat} {n : Nat} {K : Int → Nat × Nat} {F E : Int → Int → Int} {Q : Option pV → pM → Prop} (x0 x1 x2 : Int) (h : (-2147483648 ≤ x2 + 1 ∧ x2 + 1 < 2147483648) ∧ PW l G d mX5_readBoth bg 12 [(0, (2, x0)), (1, (0, x1)), (2, (0, x2 + 1))] [] (n, K, F, E) Q) : PW l G d mX5_readBoth bg 57 [(0, (2, x0)), (1, (0, x1)), (2, (0, x2))] [] (n, K, F, E) Q := by
  obtain ⟨c1, h⟩ := h
  refine n_iinc (q := 60) (lv' := [(2, (0, x2 + 1)), (0, (2, x0)), (1, (0, x1))]) 31 2 rfl rfl c1 rfl ?_
  refine s_goto (tgt := 12) 32 rfl rfl ?_
  refine PW.pick [1, 2, 0] rfl ?_
  exact h
theorem vX5_readPlain_0 {l : Launch} {G : pG} {d e : Nat} (hd : e + 1 ≤ d) (hB : 12 ≤ d) {bg : Nat × Nat} {n : Nat} {K : Int → Nat × Nat} {F E : Int → Int → Int} {Q : Option pV → pM → Prop} (x0 x1 : Int) (h : PW l G d mX5_readPlain bg 4 [(0, (2, x0)), (1, (0, x1)), (2, (0, 0)), (3, (0, 0))] [] (n, K, F, E) Q) : PW l G d mX5_readPlain bg 0 [(0, (2, x0)), (1, (0, x1))] [] (n, K, F, E) Q := by
  refine s_iconst (q := 1) 0 rfl ?_
  refine s_istore_n (q := 2) (lv' := [(2, (0, 0)), (0, (2, x0)), (1, (0, x1))]) 1 rfl rfl ?_
  refine s_iconst (q := 3) 2 rfl ?_
  refine s_istore_n (q := 4) (lv' := [(3, (0, 0)), (2, (0, 0)), (0, (2, x0)), (1, (0, x1))]) 3 rfl rfl ?_
  refine PW.pick [2, 3, 1, 0] rfl ?_
  exact h
theorem vX5_readPlain_4 {l : Launch} {G : pG} {d e : Nat} (hd : e + 1 ≤ d) (hB : 12 ≤ d) {bg : Nat × Nat} {n : Nat} {K : Int → Nat × Nat} {F E : Int → Int → Int} {Q : Option pV → pM → Prop} (x0 x1 x2 x3 : Int) (h : ((400 ≤ x3 → (K x0).1 = 5 ∧ (K (F x0 0)).1 = 10 ∧ (K (F (F x0 0) 1)).1 = 20 ∧ ((0 : Int) ≤ F x0 4 ∧ F x0 4 < ((K (F (F x0 0) 1)).2 : Int)) ∧ ((¬ (E (F (F x0 0) 1) (F x0 4) = 40) → PC l G e mX5_readCompared (0, 0) [(2, x0), (0, x1)] (n, K, F, E) (fun r μ => PW l G d mX5_readPlain bg 90 [(0, (2, x0)), (2, (0, x2))] (r.toList ++ []) μ Q)) ∧ (E (F (F x0 0) 1) (F x0 4) = 40 → ((x1 < 8 → (-2147483648 ≤ (F x0 4) + 1 ∧ (F x0 4) + 1 < 2147483648) ∧ (∀ F1, F1 = pUp F x0 4 ((F x0 4) + 1) → (-2147483648 ≤ x1 + 1 ∧ x1 + 1 < 2147483648) ∧ PC l G e mX5_readTest (0, 0) [(2, x0), (0, x1 + 1)] (n, K, F1, E) (fun r μ => PW l G d mX5_readPlain bg 71 [(0, (2, x0)), (2, (0, x2))] (r.toList ++ []) μ Q))) ∧ (¬ (x1 < 8) → Q (some (0, 0)) (n, K, F, E)))))) ∧ (¬ (400 ≤ x3) → (K x0).1 = 5 ∧ PC l G 0 mX5_skip (0, 0) [(2, x0), (0, 285)] (n, K, F, E) (fun r μ => PW l G d mX5_readPlain bg 18 [(0, (2, x0)), (1, (0, x1)), (2, (0, x2)), (3, (0, x3))] (r.toList ++ []) μ Q)))) : PW l G d mX5_readPlain bg 4 [(0, (2, x0)), (1, (0, x1)), (2, (0, x2)), (3, (0, x3))] [] (n, K, F, E) Q := by
  refine s_iload_n (q := 5) 4 3 rfl rfl ?_
  refine s_sipush (q := 8) 5 rfl ?_
  refine s_icmp_ge (q := 11) (tgt := 37) 6 rfl rfl (fun hb => ?_) (fun hb => ?_)
  · skip
    have b1 := hb
    replace h := h.1 hb
    refine s_aload_n (q := 38) 19 0 rfl rfl ?_
    refine s_bipush (q := 40) 20 rfl ?_
    obtain ⟨c2, h⟩ := h
    obtain ⟨c3, h⟩ := h
    obtain ⟨c4, h⟩ := h
    obtain ⟨c5, h⟩ := h
    refine n_callV (N := mX5_is) (as := [(0, 40)]) (st := []) (q := 43) (d' := 0) 21 rfl uX5_is kX5_53 rfl c2 (pX5_is c2 c3 c4 c5 ?_) (hd := by omega)
    show PW l G d mX5_readPlain bg 43 [(0, (2, x0)), (1, (0, x1)), (2, (0, x2)), (3, (0, x3))] [(0, bI (E (F (F x0 0) 1) (F x0 4) = 40))] (n, K, F, E) Q
    refine s_if_eq (q := 46) (tgt := 85) 22 rfl rfl (fun hb => ?_) (fun hb => ?_)
    · have hb := bI_f hb
      have b6 := hb
      replace h := h.1 hb
      refine s_aload_n (q := 86) 46 0 rfl rfl ?_
      refine s_iload_n (q := 87) 47 1 rfl rfl ?_
      refine PW.pick [0, 2] rfl ?_
      exact n_callV (N := mX5_readCompared) (as := [(0, x1)]) (st := []) (q := 90) (d' := e) 48 rfl uX5_readCompared kX5_102 rfl c2 h (hd := by omega)
    · have hb := bI_t hb
      have b6 := hb
      replace h := h.2 hb
      refine s_iload_n (q := 47) 23 1 rfl rfl ?_
      refine s_bipush (q := 49) 24 rfl ?_
      refine s_icmp_lt (q := 52) (tgt := 54) 25 rfl rfl (fun hb => ?_) (fun hb => ?_)
      · skip
        have b7 := hb
        replace h := h.1 hb
        refine s_aload_n (q := 55) 28 0 rfl rfl ?_
        refine s_dup (q := 56) 29 rfl ?_
        refine n_getf (q := 59) (jj := 4) 30 5 4 rfl kX5_33 c2 ?_
        refine s_iconst (q := 60) 31 rfl ?_
        obtain ⟨c8, h⟩ := h
        refine n_iadd (q := 61) 32 rfl c8 ?_
        refine n_putf (q := 64) (jj := 4) 33 5 4 rfl kX5_33 c2 (Or.inl rfl) ?_
        refine PW.nameF (fun F1 eF1 => ?_)
        replace h := h F1 eF1
        refine s_aload_n (q := 65) 34 0 rfl rfl ?_
        refine s_iload_n (q := 66) 35 1 rfl rfl ?_
        refine s_iconst (q := 67) 36 rfl ?_
        obtain ⟨c9, h⟩ := h
        refine n_iadd (q := 68) 37 rfl c9 ?_
        refine PW.pick [0, 2] rfl ?_
        exact n_callV (N := mX5_readTest) (as := [(0, x1 + 1)]) (st := []) (q := 71) (d' := e) 38 rfl uX5_readTest kX5_77 rfl c2 h (hd := by omega)
      · skip
        have b7 := hb
        replace h := h.2 hb
        refine s_iconst (q := 53) 26 rfl ?_
        exact s_zret 27 rfl rfl (by decide) h
  · skip
    have b1 := hb
    replace h := h.2 hb
    refine s_aload_n (q := 12) 7 0 rfl rfl ?_
    refine s_sipush (q := 15) 8 rfl ?_
    obtain ⟨c10, h⟩ := h
    refine PW.pick [0, 1, 2, 3] rfl ?_
    exact n_callV (N := mX5_skip) (as := [(0, 285)]) (st := []) (q := 18) (d' := 0) 9 rfl uX5_skip kX5_57 rfl c10 h (hd := by omega)
theorem vX5_readPlain_18 {l : Launch} {G : pG} {d e : Nat} (hd : e + 1 ≤ d) (hB : 12 ≤ d) {bg : Nat × Nat} {n : Nat} {K : Int → Nat × Nat} {F E : Int → Int → Int} {Q : Option pV → pM → Prop} (x0 x1 x2 x3 s0 : Int) (h : ((s0 = 0 → (K x0).1 = 5 ∧ (K (F x0 0)).1 = 10 ∧ (K (F (F x0 0) 1)).1 = 20 ∧ ((0 : Int) ≤ F x0 4 ∧ F x0 4 < ((K (F (F x0 0) 1)).2 : Int)) ∧ ((¬ (E (F (F x0 0) 1) (F x0 4) = 40) → PC l G e mX5_readCompared (0, 0) [(2, x0), (0, x1)] (n, K, F, E) (fun r μ => PW l G d mX5_readPlain bg 90 [(0, (2, x0)), (2, (0, x2))] (r.toList ++ []) μ Q)) ∧ (E (F (F x0 0) 1) (F x0 4) = 40 → ((x1 < 8 → (-2147483648 ≤ (F x0 4) + 1 ∧ (F x0 4) + 1 < 2147483648) ∧ (∀ F1, F1 = pUp F x0 4 ((F x0 4) + 1) → (-2147483648 ≤ x1 + 1 ∧ x1 + 1 < 2147483648) ∧ PC l G e mX5_readTest (0, 0) [(2, x0), (0, x1 + 1)] (n, K, F1, E) (fun r μ => PW l G d mX5_readPlain bg 71 [(0, (2, x0)), (2, (0, x2))] (r.toList ++ []) μ Q))) ∧ (¬ (x1 < 8) → Q (some (0, 0)) (n, K, F, E)))))) ∧ (¬ (s0 = 0) → ((¬ x2 = 0 → (-2147483648 ≤ x3 + 1 ∧ x3 + 1 < 2147483648) ∧ PW l G d mX5_readPlain bg 4 [(0, (2, x0)), (1, (0, x1)), (2, (0, 0)), (3, (0, x3 + 1))] [] (n, K, F, E) Q) ∧ (x2 = 0 → (-2147483648 ≤ x3 + 1 ∧ x3 + 1 < 2147483648) ∧ PW l G d mX5_readPlain bg 4 [(0, (2, x0)), (1, (0, x1)), (2, (0, 1)), (3, (0, x3 + 1))] [] (n, K, F, E) Q))))) : PW l G d mX5_readPlain bg 18 [(0, (2, x0)), (1, (0, x1)), (2, (0, x2)), (3, (0, x3))] [(0, s0)] (n, K, F, E) Q := by
  refine s_if_eq (q := 21) (tgt := 37) 10 rfl rfl (fun hb => ?_) (fun hb => ?_)
  · skip
    have b1 := hb
    replace h := h.1 hb
    refine s_aload_n (q := 38) 19 0 rfl rfl ?_
    refine s_bipush (q := 40) 20 rfl ?_
    obtain ⟨c2, h⟩ := h
    obtain ⟨c3, h⟩ := h
    obtain ⟨c4, h⟩ := h
    obtain ⟨c5, h⟩ := h
    refine n_callV (N := mX5_is) (as := [(0, 40)]) (st := []) (q := 43) (d' := 0) 21 rfl uX5_is kX5_53 rfl c2 (pX5_is c2 c3 c4 c5 ?_) (hd := by omega)
    show PW l G d mX5_readPlain bg 43 [(0, (2, x0)), (1, (0, x1)), (2, (0, x2)), (3, (0, x3))] [(0, bI (E (F (F x0 0) 1) (F x0 4) = 40))] (n, K, F, E) Q
    refine s_if_eq (q := 46) (tgt := 85) 22 rfl rfl (fun hb => ?_) (fun hb => ?_)
    · have hb := bI_f hb
      have b6 := hb
      replace h := h.1 hb
      refine s_aload_n (q := 86) 46 0 rfl rfl ?_
      refine s_iload_n (q := 87) 47 1 rfl rfl ?_
      refine PW.pick [0, 2] rfl ?_
      exact n_callV (N := mX5_readCompared) (as := [(0, x1)]) (st := []) (q := 90) (d' := e) 48 rfl uX5_readCompared kX5_102 rfl c2 h (hd := by omega)
    · have hb := bI_t hb
      have b6 := hb
      replace h := h.2 hb
      refine s_iload_n (q := 47) 23 1 rfl rfl ?_
      refine s_bipush (q := 49) 24 rfl ?_
      refine s_icmp_lt (q := 52) (tgt := 54) 25 rfl rfl (fun hb => ?_) (fun hb => ?_)
      · skip
        have b7 := hb
        replace h := h.1 hb
        refine s_aload_n (q := 55) 28 0 rfl rfl ?_
        refine s_dup (q := 56) 29 rfl ?_
        refine n_getf (q := 59) (jj := 4) 30 5 4 rfl kX5_33 c2 ?_
        refine s_iconst (q := 60) 31 rfl ?_
        obtain ⟨c8, h⟩ := h
        refine n_iadd (q := 61) 32 rfl c8 ?_
        refine n_putf (q := 64) (jj := 4) 33 5 4 rfl kX5_33 c2 (Or.inl rfl) ?_
        refine PW.nameF (fun F1 eF1 => ?_)
        replace h := h F1 eF1
        refine s_aload_n (q := 65) 34 0 rfl rfl ?_
        refine s_iload_n (q := 66) 35 1 rfl rfl ?_
        refine s_iconst (q := 67) 36 rfl ?_
        obtain ⟨c9, h⟩ := h
        refine n_iadd (q := 68) 37 rfl c9 ?_
        refine PW.pick [0, 2] rfl ?_
        exact n_callV (N := mX5_readTest) (as := [(0, x1 + 1)]) (st := []) (q := 71) (d' := e) 38 rfl uX5_readTest kX5_77 rfl c2 h (hd := by omega)
      · skip
        have b7 := hb
        replace h := h.2 hb
        refine s_iconst (q := 53) 26 rfl ?_
        exact s_zret 27 rfl rfl (by decide) h
  · skip
    have b1 := hb
    replace h := h.2 hb
    refine s_iload_n (q := 22) 11 2 rfl rfl ?_
    refine s_if_ne (q := 25) (tgt := 29) 12 rfl rfl (fun hb => ?_) (fun hb => ?_)
    · skip
      have b10 := hb
      replace h := h.1 hb
      refine s_iconst (q := 30) 15 rfl ?_
      refine s_istore_n (q := 31) (lv' := [(2, (0, 0)), (0, (2, x0)), (1, (0, x1)), (3, (0, x3))]) 16 rfl rfl ?_
      obtain ⟨c11, h⟩ := h
      refine n_iinc (q := 34) (lv' := [(3, (0, x3 + 1)), (2, (0, 0)), (0, (2, x0)), (1, (0, x1))]) 17 3 rfl rfl c11 rfl ?_
      refine s_goto (tgt := 4) 18 rfl rfl ?_
      refine PW.pick [2, 3, 1, 0] rfl ?_
      exact h
    · have hb := Classical.not_not.mp hb
      have b10 := hb
      replace h := h.2 hb
      refine s_iconst (q := 26) 13 rfl ?_
      refine s_goto (tgt := 30) 14 rfl rfl ?_
      refine s_istore_n (q := 31) (lv' := [(2, (0, 1)), (0, (2, x0)), (1, (0, x1)), (3, (0, x3))]) 16 rfl rfl ?_
      obtain ⟨c12, h⟩ := h
      refine n_iinc (q := 34) (lv' := [(3, (0, x3 + 1)), (2, (0, 1)), (0, (2, x0)), (1, (0, x1))]) 17 3 rfl rfl c12 rfl ?_
      refine s_goto (tgt := 4) 18 rfl rfl ?_
      refine PW.pick [2, 3, 1, 0] rfl ?_
      exact h
theorem vX5_readPlain_71 {l : Launch} {G : pG} {d e : Nat} (hd : e + 1 ≤ d) (hB : 12 ≤ d) {bg : Nat × Nat} {n : Nat} {K : Int → Nat × Nat} {F E : Int → Int → Int} {Q : Option pV → pM → Prop} (x0 x2 s0 : Int) (h : ((s0 = 0 → Q (some (0, 0)) (n, K, F, E)) ∧ (¬ (s0 = 0) → (K x0).1 = 5 ∧ PC l G 0 mX5_skip (0, 0) [(2, x0), (0, 41)] (n, K, F, E) (fun r μ => PW l G d mX5_readPlain bg 80 [(0, (2, x0)), (2, (0, x2))] (r.toList ++ []) μ Q)))) : PW l G d mX5_readPlain bg 71 [(0, (2, x0)), (2, (0, x2))] [(0, s0)] (n, K, F, E) Q := by
  refine s_if_eq (q := 74) (tgt := 83) 39 rfl rfl (fun hb => ?_) (fun hb => ?_)
  · skip
    have b1 := hb
    replace h := h.1 hb
    refine s_iconst (q := 84) 44 rfl ?_
    exact s_zret 45 rfl rfl (by decide) h
  · skip
    have b1 := hb
    replace h := h.2 hb
    refine s_aload_n (q := 75) 40 0 rfl rfl ?_
    refine s_bipush (q := 77) 41 rfl ?_
    obtain ⟨c2, h⟩ := h
    refine PW.pick [0, 1] rfl ?_
    exact n_callV (N := mX5_skip) (as := [(0, 41)]) (st := []) (q := 80) (d' := 0) 42 rfl uX5_skip kX5_57 rfl c2 h (hd := by omega)
theorem vX5_readPlain_90 {l : Launch} {G : pG} {d e : Nat} (hd : e + 1 ≤ d) (hB : 12 ≤ d) {bg : Nat × Nat} {n : Nat} {K : Int → Nat × Nat} {F E : Int → Int → Int} {Q : Option pV → pM → Prop} (x0 x2 s0 : Int) (h : ((¬ s0 = 0 → ((x2 = 0 → Q (some (0, 1)) (n, K, F, E)) ∧ (¬ (x2 = 0) → (K x0).1 = 5 ∧ (K (F x0 1)).1 = 9 ∧ PC l G 0 mX9_emit (0, 0) [(2, F x0 1), (0, 3), (0, 0)] (n, K, F, E) (fun r μ => PW l G d mX5_readPlain bg 108 [] (r.toList ++ []) μ Q)))) ∧ (s0 = 0 → Q (some (0, 0)) (n, K, F, E)))) : PW l G d mX5_readPlain bg 90 [(0, (2, x0)), (2, (0, x2))] [(0, s0)] (n, K, F, E) Q := by
  refine s_if_ne (q := 93) (tgt := 95) 49 rfl rfl (fun hb => ?_) (fun hb => ?_)
  · skip
    have b1 := hb
    replace h := h.1 hb
    refine s_iload_n (q := 96) 52 1 rfl rfl ?_
    refine s_if_eq (q := 99) (tgt := 109) 53 rfl rfl (fun hb => ?_) (fun hb => ?_)
    · skip
      have b2 := hb
      replace h := h.1 hb
      refine s_iconst (q := 110) 60 rfl ?_
      exact s_zret 61 rfl rfl (by decide) h
    · skip
      have b2 := hb
      replace h := h.2 hb
      refine s_aload_n (q := 100) 54 0 rfl rfl ?_
      obtain ⟨c3, h⟩ := h
      refine n_getf (q := 103) (jj := 1) 55 5 1 rfl kX5_21 c3 ?_
      refine s_iconst (q := 104) 56 rfl ?_
      refine s_iconst (q := 105) 57 rfl ?_
      obtain ⟨c4, h⟩ := h
      refine PW.pick [] rfl ?_
      exact n_callV (N := mX9_emit) (as := [(0, 3), (0, 0)]) (st := []) (q := 108) (d' := 0) 58 rfl uX9_emit kX5_82 rfl c4 h (hd := by omega)
  · have hb := Classical.not_not.mp hb
    have b1 := hb
    replace h := h.2 hb
    refine s_iconst (q := 94) 50 rfl ?_
    exact s_zret 51 rfl rfl (by decide) h
theorem vX5_readPlain_80 {l : Launch} {G : pG} {d e : Nat} (hd : e + 1 ≤ d) (hB : 12 ≤ d) {bg : Nat × Nat} {n : Nat} {K : Int → Nat × Nat} {F E : Int → Int → Int} {Q : Option pV → pM → Prop} (x0 x2 s0 : Int) (h : ((¬ s0 = 0 → ((x2 = 0 → Q (some (0, 1)) (n, K, F, E)) ∧ (¬ (x2 = 0) → (K x0).1 = 5 ∧ (K (F x0 1)).1 = 9 ∧ PC l G 0 mX9_emit (0, 0) [(2, F x0 1), (0, 3), (0, 0)] (n, K, F, E) (fun r μ => PW l G d mX5_readPlain bg 108 [] (r.toList ++ []) μ Q)))) ∧ (s0 = 0 → Q (some (0, 0)) (n, K, F, E)))) : PW l G d mX5_readPlain bg 80 [(0, (2, x0)), (2, (0, x2))] [(0, s0)] (n, K, F, E) Q := by
  refine s_if_ne (q := 83) (tgt := 95) 43 rfl rfl (fun hb => ?_) (fun hb => ?_)
  · skip
    have b1 := hb
    replace h := h.1 hb
    refine s_iload_n (q := 96) 52 1 rfl rfl ?_
    refine s_if_eq (q := 99) (tgt := 109) 53 rfl rfl (fun hb => ?_) (fun hb => ?_)
    · skip
      have b2 := hb
      replace h := h.1 hb
      refine s_iconst (q := 110) 60 rfl ?_
      exact s_zret 61 rfl rfl (by decide) h
    · skip
      have b2 := hb
      replace h := h.2 hb
      refine s_aload_n (q := 100) 54 0 rfl rfl ?_
      obtain ⟨c3, h⟩ := h
      refine n_getf (q := 103) (jj := 1) 55 5 1 rfl kX5_21 c3 ?_
      refine s_iconst (q := 104) 56 rfl ?_
      refine s_iconst (q := 105) 57 rfl ?_
      obtain ⟨c4, h⟩ := h
      refine PW.pick [] rfl ?_
      exact n_callV (N := mX9_emit) (as := [(0, 3), (0, 0)]) (st := []) (q := 108) (d' := 0) 58 rfl uX9_emit kX5_82 rfl c4 h (hd := by omega)
  · have hb := Classical.not_not.mp hb
    have b1 := hb
    replace h := h.2 hb
    refine s_iconst (q := 84) 44 rfl ?_
    exact s_zret 45 rfl rfl (by decide) h
theorem vX5_readPlain_108 {l : Launch} {G : pG} {d e : Nat} (hd : e + 1 ≤ d) (hB : 12 ≤ d) {bg : Nat × Nat} {n : Nat} {K : Int → Nat × Nat} {F E : Int → Int → Int} {Q : Option pV → pM → Prop} (s0 : Int) (h : Q (some (0, 1)) (n, K, F, E)) : PW l G d mX5_readPlain bg 108 [] [(0, s0)] (n, K, F, E) Q := by
  refine s_pop (q := 109) 59 rfl ?_
  refine s_iconst (q := 110) 60 rfl ?_
  exact s_zret 61 rfl rfl (by decide) h
theorem vX5_readCompared_0 {l : Launch} {G : pG} {d e : Nat} (hd : e + 1 ≤ d) (hB : 12 ≤ d) {bg : Nat × Nat} {n : Nat} {K : Int → Nat × Nat} {F E : Int → Int → Int} {Q : Option pV → pM → Prop} (x0 x1 : Int) (h : (K x0).1 = 5 ∧ PC l G e mX5_readSum (0, 0) [(2, x0), (0, x1)] (n, K, F, E) (fun r μ => PW l G d mX5_readCompared bg 5 [(0, (2, x0)), (1, (0, x1))] (r.toList ++ []) μ Q)) : PW l G d mX5_readCompared bg 0 [(0, (2, x0)), (1, (0, x1))] [] (n, K, F, E) Q := by
  refine s_aload_n (q := 1) 0 0 rfl rfl ?_
  refine s_iload_n (q := 2) 1 1 rfl rfl ?_
  obtain ⟨c1, h⟩ := h
  refine PW.pick [0, 1] rfl ?_
  exact n_callV (N := mX5_readSum) (as := [(0, x1)]) (st := []) (q := 5) (d' := e) 2 rfl uX5_readSum kX5_90 rfl c1 h (hd := by omega)
theorem vX5_readCompared_5 {l : Launch} {G : pG} {d e : Nat} (hd : e + 1 ≤ d) (hB : 12 ≤ d) {bg : Nat × Nat} {n : Nat} {K : Int → Nat × Nat} {F E : Int → Int → Int} {Q : Option pV → pM → Prop} (x0 x1 s0 : Int) (h : ((¬ s0 = 0 → (K x0).1 = 5 ∧ (K (F x0 0)).1 = 10 ∧ (K (F (F x0 0) 1)).1 = 20 ∧ ((0 : Int) ≤ F x0 4 ∧ F x0 4 < ((K (F (F x0 0) 1)).2 : Int)) ∧ ((¬ (E (F (F x0 0) 1) (F x0 4) = 60) → ((¬ (E (F (F x0 0) 1) (F x0 4) = 62) → PC l G 0 mX5_skip (0, 0) [(2, x0), (0, 60)] (n, K, F, E) (fun r μ => PW l G d mX5_readCompared bg 47 [(0, (2, x0)), (1, (0, x1)), (2, (0, 13))] (r.toList ++ []) μ Q)) ∧ (E (F (F x0 0) 1) (F x0 4) = 62 → PC l G 0 mX5_skip (0, 0) [(2, x0), (0, 60)] (n, K, F, E) (fun r μ => PW l G d mX5_readCompared bg 47 [(0, (2, x0)), (1, (0, x1)), (2, (0, 12))] (r.toList ++ []) μ Q)))) ∧ (E (F (F x0 0) 1) (F x0 4) = 60 → PC l G 0 mX5_skip (0, 0) [(2, x0), (0, 60)] (n, K, F, E) (fun r μ => PW l G d mX5_readCompared bg 47 [(0, (2, x0)), (1, (0, x1)), (2, (0, 11))] (r.toList ++ []) μ Q)))) ∧ (s0 = 0 → Q (some (0, 0)) (n, K, F, E)))) : PW l G d mX5_readCompared bg 5 [(0, (2, x0)), (1, (0, x1))] [(0, s0)] (n, K, F, E) Q := by
  refine s_if_ne (q := 8) (tgt := 10) 3 rfl rfl (fun hb => ?_) (fun hb => ?_)
  · skip
    have b1 := hb
    replace h := h.1 hb
    refine s_aload_n (q := 11) 6 0 rfl rfl ?_
    refine s_bipush (q := 13) 7 rfl ?_
    obtain ⟨c2, h⟩ := h
    obtain ⟨c3, h⟩ := h
    obtain ⟨c4, h⟩ := h
    obtain ⟨c5, h⟩ := h
    refine n_callV (N := mX5_is) (as := [(0, 60)]) (st := []) (q := 16) (d' := 0) 8 rfl uX5_is kX5_53 rfl c2 (pX5_is c2 c3 c4 c5 ?_) (hd := by omega)
    show PW l G d mX5_readCompared bg 16 [(0, (2, x0)), (1, (0, x1))] [(0, bI (E (F (F x0 0) 1) (F x0 4) = 60))] (n, K, F, E) Q
    refine s_if_eq (q := 19) (tgt := 24) 9 rfl rfl (fun hb => ?_) (fun hb => ?_)
    · have hb := bI_f hb
      have b6 := hb
      replace h := h.1 hb
      refine s_aload_n (q := 25) 12 0 rfl rfl ?_
      refine s_bipush (q := 27) 13 rfl ?_
      refine n_callV (N := mX5_is) (as := [(0, 62)]) (st := []) (q := 30) (d' := 0) 14 rfl uX5_is kX5_53 rfl c2 (pX5_is c2 c3 c4 c5 ?_) (hd := by omega)
      show PW l G d mX5_readCompared bg 30 [(0, (2, x0)), (1, (0, x1))] [(0, bI (E (F (F x0 0) 1) (F x0 4) = 62))] (n, K, F, E) Q
      refine s_if_eq (q := 33) (tgt := 38) 15 rfl rfl (fun hb => ?_) (fun hb => ?_)
      · have hb := bI_f hb
        have b7 := hb
        replace h := h.1 hb
        refine s_bipush (q := 40) 18 rfl ?_
        refine s_istore_n (q := 41) (lv' := [(2, (0, 13)), (0, (2, x0)), (1, (0, x1))]) 19 rfl rfl ?_
        refine s_aload_n (q := 42) 20 1 rfl rfl ?_
        refine s_bipush (q := 44) 21 rfl ?_
        refine PW.pick [1, 2, 0] rfl ?_
        exact n_callV (N := mX5_skip) (as := [(0, 60)]) (st := []) (q := 47) (d' := 0) 22 rfl uX5_skip kX5_57 rfl c2 h (hd := by omega)
      · have hb := bI_t hb
        have b7 := hb
        replace h := h.2 hb
        refine s_bipush (q := 35) 16 rfl ?_
        refine s_goto (tgt := 40) 17 rfl rfl ?_
        refine s_istore_n (q := 41) (lv' := [(2, (0, 12)), (0, (2, x0)), (1, (0, x1))]) 19 rfl rfl ?_
        refine s_aload_n (q := 42) 20 1 rfl rfl ?_
        refine s_bipush (q := 44) 21 rfl ?_
        refine PW.pick [1, 2, 0] rfl ?_
        exact n_callV (N := mX5_skip) (as := [(0, 60)]) (st := []) (q := 47) (d' := 0) 22 rfl uX5_skip kX5_57 rfl c2 h (hd := by omega)
    · have hb := bI_t hb
      have b6 := hb
      replace h := h.2 hb
      refine s_bipush (q := 21) 10 rfl ?_
      refine s_goto (tgt := 40) 11 rfl rfl ?_
      refine s_istore_n (q := 41) (lv' := [(2, (0, 11)), (0, (2, x0)), (1, (0, x1))]) 19 rfl rfl ?_
      refine s_aload_n (q := 42) 20 1 rfl rfl ?_
      refine s_bipush (q := 44) 21 rfl ?_
      refine PW.pick [1, 2, 0] rfl ?_
      exact n_callV (N := mX5_skip) (as := [(0, 60)]) (st := []) (q := 47) (d' := 0) 22 rfl uX5_skip kX5_57 rfl c2 h (hd := by omega)
  · have hb := Classical.not_not.mp hb
    have b1 := hb
    replace h := h.2 hb
    refine s_iconst (q := 9) 4 rfl ?_
    exact s_zret 5 rfl rfl (by decide) h
theorem vX5_readCompared_47 {l : Launch} {G : pG} {d e : Nat} (hd : e + 1 ≤ d) (hB : 12 ≤ d) {bg : Nat × Nat} {n : Nat} {K : Int → Nat × Nat} {F E : Int → Int → Int} {Q : Option pV → pM → Prop} (x0 x1 x2 s0 : Int) (h : ((¬ s0 = 0 → (K x0).1 = 5 ∧ PC l G e mX5_readSum (0, 0) [(2, x0), (0, x1)] (n, K, F, E) (fun r μ => PW l G d mX5_readCompared bg 73 [(0, (2, x0)), (2, (0, x2))] (r.toList ++ []) μ Q)) ∧ (s0 = 0 → (K x0).1 = 5 ∧ PC l G 0 mX5_skip (0, 0) [(2, x0), (0, 62)] (n, K, F, E) (fun r μ => PW l G d mX5_readCompared bg 56 [(0, (2, x0)), (1, (0, x1)), (2, (0, x2))] (r.toList ++ []) μ Q)))) : PW l G d mX5_readCompared bg 47 [(0, (2, x0)), (1, (0, x1)), (2, (0, x2))] [(0, s0)] (n, K, F, E) Q := by
  refine s_if_ne (q := 50) (tgt := 68) 23 rfl rfl (fun hb => ?_) (fun hb => ?_)
  · skip
    have b1 := hb
    replace h := h.1 hb
    refine s_aload_n (q := 69) 32 0 rfl rfl ?_
    refine s_iload_n (q := 70) 33 1 rfl rfl ?_
    obtain ⟨c2, h⟩ := h
    refine PW.pick [0, 2] rfl ?_
    exact n_callV (N := mX5_readSum) (as := [(0, x1)]) (st := []) (q := 73) (d' := e) 34 rfl uX5_readSum kX5_90 rfl c2 h (hd := by omega)
  · have hb := Classical.not_not.mp hb
    have b1 := hb
    replace h := h.2 hb
    refine s_aload_n (q := 51) 24 0 rfl rfl ?_
    refine s_bipush (q := 53) 25 rfl ?_
    obtain ⟨c3, h⟩ := h
    refine PW.pick [0, 1, 2] rfl ?_
    exact n_callV (N := mX5_skip) (as := [(0, 62)]) (st := []) (q := 56) (d' := 0) 26 rfl uX5_skip kX5_57 rfl c3 h (hd := by omega)
theorem vX5_readCompared_56 {l : Launch} {G : pG} {d e : Nat} (hd : e + 1 ≤ d) (hB : 12 ≤ d) {bg : Nat × Nat} {n : Nat} {K : Int → Nat × Nat} {F E : Int → Int → Int} {Q : Option pV → pM → Prop} (x0 x1 x2 s0 : Int) (h : ((¬ s0 = 0 → (K x0).1 = 5 ∧ PC l G e mX5_readSum (0, 0) [(2, x0), (0, x1)] (n, K, F, E) (fun r μ => PW l G d mX5_readCompared bg 73 [(0, (2, x0)), (2, (0, x2))] (r.toList ++ []) μ Q)) ∧ (s0 = 0 → (K x0).1 = 5 ∧ PC l G 0 mX5_skip (0, 0) [(2, x0), (0, 61)] (n, K, F, E) (fun r μ => PW l G d mX5_readCompared bg 65 [(0, (2, x0)), (1, (0, x1)), (2, (0, x2))] (r.toList ++ []) μ Q)))) : PW l G d mX5_readCompared bg 56 [(0, (2, x0)), (1, (0, x1)), (2, (0, x2))] [(0, s0)] (n, K, F, E) Q := by
  refine s_if_ne (q := 59) (tgt := 68) 27 rfl rfl (fun hb => ?_) (fun hb => ?_)
  · skip
    have b1 := hb
    replace h := h.1 hb
    refine s_aload_n (q := 69) 32 0 rfl rfl ?_
    refine s_iload_n (q := 70) 33 1 rfl rfl ?_
    obtain ⟨c2, h⟩ := h
    refine PW.pick [0, 2] rfl ?_
    exact n_callV (N := mX5_readSum) (as := [(0, x1)]) (st := []) (q := 73) (d' := e) 34 rfl uX5_readSum kX5_90 rfl c2 h (hd := by omega)
  · have hb := Classical.not_not.mp hb
    have b1 := hb
    replace h := h.2 hb
    refine s_aload_n (q := 60) 28 0 rfl rfl ?_
    refine s_bipush (q := 62) 29 rfl ?_
    obtain ⟨c3, h⟩ := h
    refine PW.pick [0, 1, 2] rfl ?_
    exact n_callV (N := mX5_skip) (as := [(0, 61)]) (st := []) (q := 65) (d' := 0) 30 rfl uX5_skip kX5_57 rfl c3 h (hd := by omega)
theorem vX5_readCompared_73 {l : Launch} {G : pG} {d e : Nat} (hd : e + 1 ≤ d) (hB : 12 ≤ d) {bg : Nat × Nat} {n : Nat} {K : Int → Nat × Nat} {F E : Int → Int → Int} {Q : Option pV → pM → Prop} (x0 x2 s0 : Int) (h : ((¬ s0 = 0 → (K x0).1 = 5 ∧ (K (F x0 1)).1 = 9 ∧ PC l G 0 mX9_emit (0, 0) [(2, F x0 1), (0, x2), (0, 0)] (n, K, F, E) (fun r μ => PW l G d mX5_readCompared bg 87 [] (r.toList ++ []) μ Q)) ∧ (s0 = 0 → Q (some (0, 0)) (n, K, F, E)))) : PW l G d mX5_readCompared bg 73 [(0, (2, x0)), (2, (0, x2))] [(0, s0)] (n, K, F, E) Q := by
  refine s_if_ne (q := 76) (tgt := 78) 35 rfl rfl (fun hb => ?_) (fun hb => ?_)
  · skip
    have b1 := hb
    replace h := h.1 hb
    refine s_aload_n (q := 79) 38 0 rfl rfl ?_
    obtain ⟨c2, h⟩ := h
    refine n_getf (q := 82) (jj := 1) 39 5 1 rfl kX5_21 c2 ?_
    refine s_iload_n (q := 83) 40 1 rfl rfl ?_
    refine s_iconst (q := 84) 41 rfl ?_
    obtain ⟨c3, h⟩ := h
    refine PW.pick [] rfl ?_
    exact n_callV (N := mX9_emit) (as := [(0, x2), (0, 0)]) (st := []) (q := 87) (d' := 0) 42 rfl uX9_emit kX5_82 rfl c3 h (hd := by omega)
  · have hb := Classical.not_not.mp hb
    have b1 := hb
    replace h := h.2 hb
    refine s_iconst (q := 77) 36 rfl ?_
    exact s_zret 37 rfl rfl (by decide) h
theorem vX5_readCompared_65 {l : Launch} {G : pG} {d e : Nat} (hd : e + 1 ≤ d) (hB : 12 ≤ d) {bg : Nat × Nat} {n : Nat} {K : Int → Nat × Nat} {F E : Int → Int → Int} {Q : Option pV → pM → Prop} (x0 x1 x2 s0 : Int) (h : ((s0 = 0 → Q (some (0, 0)) (n, K, F, E)) ∧ (¬ (s0 = 0) → (K x0).1 = 5 ∧ PC l G e mX5_readSum (0, 0) [(2, x0), (0, x1)] (n, K, F, E) (fun r μ => PW l G d mX5_readCompared bg 73 [(0, (2, x0)), (2, (0, x2))] (r.toList ++ []) μ Q)))) : PW l G d mX5_readCompared bg 65 [(0, (2, x0)), (1, (0, x1)), (2, (0, x2))] [(0, s0)] (n, K, F, E) Q := by
  refine s_if_eq (q := 68) (tgt := 76) 31 rfl rfl (fun hb => ?_) (fun hb => ?_)
  · skip
    have b1 := hb
    replace h := h.1 hb
    refine s_iconst (q := 77) 36 rfl ?_
    exact s_zret 37 rfl rfl (by decide) h
  · skip
    have b1 := hb
    replace h := h.2 hb
    refine s_aload_n (q := 69) 32 0 rfl rfl ?_
    refine s_iload_n (q := 70) 33 1 rfl rfl ?_
    obtain ⟨c2, h⟩ := h
    refine PW.pick [0, 2] rfl ?_
    exact n_callV (N := mX5_readSum) (as := [(0, x1)]) (st := []) (q := 73) (d' := e) 34 rfl uX5_readSum kX5_90 rfl c2 h (hd := by omega)
theorem vX5_readCompared_87 {l : Launch} {G : pG} {d e : Nat} (hd : e + 1 ≤ d) (hB : 12 ≤ d) {bg : Nat × Nat} {n : Nat} {K : Int → Nat × Nat} {F E : Int → Int → Int} {Q : Option pV → pM → Prop} (s0 : Int) (h : Q (some (0, 1)) (n, K, F, E)) : PW l G d mX5_readCompared bg 87 [] [(0, s0)] (n, K, F, E) Q := by
  refine s_pop (q := 88) 43 rfl ?_
  refine s_iconst (q := 89) 44 rfl ?_
  exact s_zret 45 rfl rfl (by decide) h
theorem vX5_readSum_0 {l : Launch} {G : pG} {d e : Nat} (hd : e + 1 ≤ d) (hB : 12 ≤ d) {bg : Nat × Nat} {n : Nat} {K : Int → Nat × Nat} {F E : Int → Int → Int} {Q : Option pV → pM → Prop} (x0 x1 : Int) (h : (K x0).1 = 5 ∧ PC l G e mX5_readTerm (0, 0) [(2, x0), (0, x1)] (n, K, F, E) (fun r μ => PW l G d mX5_readSum bg 5 [(0, (2, x0)), (1, (0, x1))] (r.toList ++ []) μ Q)) : PW l G d mX5_readSum bg 0 [(0, (2, x0)), (1, (0, x1))] [] (n, K, F, E) Q := by
  refine s_aload_n (q := 1) 0 0 rfl rfl ?_
  refine s_iload_n (q := 2) 1 1 rfl rfl ?_
  obtain ⟨c1, h⟩ := h
  refine PW.pick [0, 1] rfl ?_
  exact n_callV (N := mX5_readTerm) (as := [(0, x1)]) (st := []) (q := 5) (d' := e) 2 rfl uX5_readTerm kX5_105 rfl c1 h (hd := by omega)
theorem vX5_readSum_5 {l : Launch} {G : pG} {d e : Nat} (hd : e + 1 ≤ d) (hB : 12 ≤ d) {bg : Nat × Nat} {n : Nat} {K : Int → Nat × Nat} {F E : Int → Int → Int} {Q : Option pV → pM → Prop} (x0 x1 s0 : Int) (h : ((¬ s0 = 0 → PW l G d mX5_readSum bg 12 [(0, (2, x0)), (1, (0, x1)), (2, (0, 0))] [] (n, K, F, E) Q) ∧ (s0 = 0 → Q (some (0, 0)) (n, K, F, E)))) : PW l G d mX5_readSum bg 5 [(0, (2, x0)), (1, (0, x1))] [(0, s0)] (n, K, F, E) Q := by
  refine s_if_ne (q := 8) (tgt := 10) 3 rfl rfl (fun hb => ?_) (fun hb => ?_)
  · skip
    have b1 := hb
    replace h := h.1 hb
    refine s_iconst (q := 11) 6 rfl ?_
    refine s_istore_n (q := 12) (lv' := [(2, (0, 0)), (0, (2, x0)), (1, (0, x1))]) 7 rfl rfl ?_
    refine PW.pick [1, 2, 0] rfl ?_
    exact h
  · have hb := Classical.not_not.mp hb
    have b1 := hb
    replace h := h.2 hb
    refine s_iconst (q := 9) 4 rfl ?_
    exact s_zret 5 rfl rfl (by decide) h
theorem vX5_readSum_12 {l : Launch} {G : pG} {d e : Nat} (hd : e + 1 ≤ d) (hB : 12 ≤ d) {bg : Nat × Nat} {n : Nat} {K : Int → Nat × Nat} {F E : Int → Int → Int} {Q : Option pV → pM → Prop} (x0 x1 x2 : Int) (h : ((400 ≤ x2 → Q (some (0, 1)) (n, K, F, E)) ∧ (¬ (400 ≤ x2) → (K x0).1 = 5 ∧ (K (F x0 0)).1 = 10 ∧ (K (F (F x0 0) 1)).1 = 20 ∧ ((0 : Int) ≤ F x0 4 ∧ F x0 4 < ((K (F (F x0 0) 1)).2 : Int)) ∧ ((E (F (F x0 0) 1) (F x0 4) = 43 → ((¬ (E (F (F x0 0) 1) (F x0 4) = 43) → (-2147483648 ≤ (F x0 4) + 1 ∧ (F x0 4) + 1 < 2147483648) ∧ (∀ F1, F1 = pUp F x0 4 ((F x0 4) + 1) → PC l G e mX5_readTerm (0, 0) [(2, x0), (0, x1)] (n, K, F1, E) (fun r μ => PW l G d mX5_readSum bg 69 [(0, (2, x0)), (1, (0, x1)), (2, (0, x2)), (3, (0, 7))] (r.toList ++ []) μ Q))) ∧ (E (F (F x0 0) 1) (F x0 4) = 43 → (-2147483648 ≤ (F x0 4) + 1 ∧ (F x0 4) + 1 < 2147483648) ∧ (∀ F2, F2 = pUp F x0 4 ((F x0 4) + 1) → PC l G e mX5_readTerm (0, 0) [(2, x0), (0, x1)] (n, K, F2, E) (fun r μ => PW l G d mX5_readSum bg 69 [(0, (2, x0)), (1, (0, x1)), (2, (0, x2)), (3, (0, 6))] (r.toList ++ []) μ Q))))) ∧ (¬ (E (F (F x0 0) 1) (F x0 4) = 43) → ((¬ (E (F (F x0 0) 1) (F x0 4) = 45) → Q (some (0, 1)) (n, K, F, E)) ∧ (E (F (F x0 0) 1) (F x0 4) = 45 → ((¬ (E (F (F x0 0) 1) (F x0 4) = 43) → (-2147483648 ≤ (F x0 4) + 1 ∧ (F x0 4) + 1 < 2147483648) ∧ (∀ F3, F3 = pUp F x0 4 ((F x0 4) + 1) → PC l G e mX5_readTerm (0, 0) [(2, x0), (0, x1)] (n, K, F3, E) (fun r μ => PW l G d mX5_readSum bg 69 [(0, (2, x0)), (1, (0, x1)), (2, (0, x2)), (3, (0, 7))] (r.toList ++ []) μ Q))) ∧ (E (F (F x0 0) 1) (F x0 4) = 43 → (-2147483648 ≤ (F x0 4) + 1 ∧ (F x0 4) + 1 < 2147483648) ∧ (∀ F4, F4 = pUp F x0 4 ((F x0 4) + 1) → PC l G e mX5_readTerm (0, 0) [(2, x0), (0, x1)] (n, K, F4, E) (fun r μ => PW l G d mX5_readSum bg 69 [(0, (2, x0)), (1, (0, x1)), (2, (0, x2)), (3, (0, 6))] (r.toList ++ []) μ Q))))))))))) : PW l G d mX5_readSum bg 12 [(0, (2, x0)), (1, (0, x1)), (2, (0, x2))] [] (n, K, F, E) Q := by
  refine s_iload_n (q := 13) 8 2 rfl rfl ?_
  refine s_sipush (q := 16) 9 rfl ?_
  refine s_icmp_ge (q := 19) (tgt := 90) 10 rfl rfl (fun hb => ?_) (fun hb => ?_)
  · skip
    have b1 := hb
    replace h := h.1 hb
    refine s_iconst (q := 91) 47 rfl ?_
    exact s_zret 48 rfl rfl (by decide) h
  · skip
    have b1 := hb
    replace h := h.2 hb
    refine s_aload_n (q := 20) 11 0 rfl rfl ?_
    refine s_bipush (q := 22) 12 rfl ?_
    obtain ⟨c2, h⟩ := h
    obtain ⟨c3, h⟩ := h
    obtain ⟨c4, h⟩ := h
    obtain ⟨c5, h⟩ := h
    refine n_callV (N := mX5_is) (as := [(0, 43)]) (st := []) (q := 25) (d' := 0) 13 rfl uX5_is kX5_53 rfl c2 (pX5_is c2 c3 c4 c5 ?_) (hd := by omega)
    show PW l G d mX5_readSum bg 25 [(0, (2, x0)), (1, (0, x1)), (2, (0, x2))] [(0, bI (E (F (F x0 0) 1) (F x0 4) = 43))] (n, K, F, E) Q
    refine s_if_ne (q := 28) (tgt := 37) 14 rfl rfl (fun hb => ?_) (fun hb => ?_)
    · have hb := bI_t hb
      have b6 := hb
      replace h := h.1 hb
      refine s_aload_n (q := 38) 19 0 rfl rfl ?_
      refine s_bipush (q := 40) 20 rfl ?_
      refine n_callV (N := mX5_is) (as := [(0, 43)]) (st := []) (q := 43) (d' := 0) 21 rfl uX5_is kX5_53 rfl c2 (pX5_is c2 c3 c4 c5 ?_) (hd := by omega)
      show PW l G d mX5_readSum bg 43 [(0, (2, x0)), (1, (0, x1)), (2, (0, x2))] [(0, bI (E (F (F x0 0) 1) (F x0 4) = 43))] (n, K, F, E) Q
      refine s_if_eq (q := 46) (tgt := 51) 22 rfl rfl (fun hb => ?_) (fun hb => ?_)
      · have hb := bI_f hb
        have b7 := hb
        replace h := h.1 hb
        refine s_bipush (q := 53) 25 rfl ?_
        refine s_istore_n (q := 54) (lv' := [(3, (0, 7)), (0, (2, x0)), (1, (0, x1)), (2, (0, x2))]) 26 rfl rfl ?_
        refine s_aload_n (q := 55) 27 1 rfl rfl ?_
        refine s_dup (q := 56) 28 rfl ?_
        refine n_getf (q := 59) (jj := 4) 29 5 4 rfl kX5_33 c2 ?_
        refine s_iconst (q := 60) 30 rfl ?_
        obtain ⟨c8, h⟩ := h
        refine n_iadd (q := 61) 31 rfl c8 ?_
        refine n_putf (q := 64) (jj := 4) 32 5 4 rfl kX5_33 c2 (Or.inl rfl) ?_
        refine PW.nameF (fun F1 eF1 => ?_)
        replace h := h F1 eF1
        refine s_aload_n (q := 65) 33 1 rfl rfl ?_
        refine s_iload_n (q := 66) 34 2 rfl rfl ?_
        refine PW.pick [1, 2, 3, 0] rfl ?_
        exact n_callV (N := mX5_readTerm) (as := [(0, x1)]) (st := []) (q := 69) (d' := e) 35 rfl uX5_readTerm kX5_105 rfl c2 h (hd := by omega)
      · have hb := bI_t hb
        have b7 := hb
        replace h := h.2 hb
        refine s_bipush (q := 48) 23 rfl ?_
        refine s_goto (tgt := 53) 24 rfl rfl ?_
        refine s_istore_n (q := 54) (lv' := [(3, (0, 6)), (0, (2, x0)), (1, (0, x1)), (2, (0, x2))]) 26 rfl rfl ?_
        refine s_aload_n (q := 55) 27 1 rfl rfl ?_
        refine s_dup (q := 56) 28 rfl ?_
        refine n_getf (q := 59) (jj := 4) 29 5 4 rfl kX5_33 c2 ?_
        refine s_iconst (q := 60) 30 rfl ?_
        obtain ⟨c9, h⟩ := h
        refine n_iadd (q := 61) 31 rfl c9 ?_
        refine n_putf (q := 64) (jj := 4) 32 5 4 rfl kX5_33 c2 (Or.inl rfl) ?_
        refine PW.nameF (fun F2 eF2 => ?_)
        replace h := h F2 eF2
        refine s_aload_n (q := 65) 33 1 rfl rfl ?_
        refine s_iload_n (q := 66) 34 2 rfl rfl ?_
        refine PW.pick [1, 2, 3, 0] rfl ?_
        exact n_callV (N := mX5_readTerm) (as := [(0, x1)]) (st := []) (q := 69) (d' := e) 35 rfl uX5_readTerm kX5_105 rfl c2 h (hd := by omega)
    · have hb := bI_f2 hb
      have b6 := hb
      replace h := h.2 hb
      refine s_aload_n (q := 29) 15 0 rfl rfl ?_
      refine s_bipush (q := 31) 16 rfl ?_
      refine n_callV (N := mX5_is) (as := [(0, 45)]) (st := []) (q := 34) (d' := 0) 17 rfl uX5_is kX5_53 rfl c2 (pX5_is c2 c3 c4 c5 ?_) (hd := by omega)
      show PW l G d mX5_readSum bg 34 [(0, (2, x0)), (1, (0, x1)), (2, (0, x2))] [(0, bI (E (F (F x0 0) 1) (F x0 4) = 45))] (n, K, F, E) Q
      refine s_if_eq (q := 37) (tgt := 90) 18 rfl rfl (fun hb => ?_) (fun hb => ?_)
      · have hb := bI_f hb
        have b10 := hb
        replace h := h.1 hb
        refine s_iconst (q := 91) 47 rfl ?_
        exact s_zret 48 rfl rfl (by decide) h
      · have hb := bI_t hb
        have b10 := hb
        replace h := h.2 hb
        refine s_aload_n (q := 38) 19 0 rfl rfl ?_
        refine s_bipush (q := 40) 20 rfl ?_
        refine n_callV (N := mX5_is) (as := [(0, 43)]) (st := []) (q := 43) (d' := 0) 21 rfl uX5_is kX5_53 rfl c2 (pX5_is c2 c3 c4 c5 ?_) (hd := by omega)
        show PW l G d mX5_readSum bg 43 [(0, (2, x0)), (1, (0, x1)), (2, (0, x2))] [(0, bI (E (F (F x0 0) 1) (F x0 4) = 43))] (n, K, F, E) Q
        refine s_if_eq (q := 46) (tgt := 51) 22 rfl rfl (fun hb => ?_) (fun hb => ?_)
        · have hb := bI_f hb
          have b11 := hb
          replace h := h.1 hb
          refine s_bipush (q := 53) 25 rfl ?_
          refine s_istore_n (q := 54) (lv' := [(3, (0, 7)), (0, (2, x0)), (1, (0, x1)), (2, (0, x2))]) 26 rfl rfl ?_
          refine s_aload_n (q := 55) 27 1 rfl rfl ?_
          refine s_dup (q := 56) 28 rfl ?_
          refine n_getf (q := 59) (jj := 4) 29 5 4 rfl kX5_33 c2 ?_
          refine s_iconst (q := 60) 30 rfl ?_
          obtain ⟨c12, h⟩ := h
          refine n_iadd (q := 61) 31 rfl c12 ?_
          refine n_putf (q := 64) (jj := 4) 32 5 4 rfl kX5_33 c2 (Or.inl rfl) ?_
          refine PW.nameF (fun F3 eF3 => ?_)
          replace h := h F3 eF3
          refine s_aload_n (q := 65) 33 1 rfl rfl ?_
          refine s_iload_n (q := 66) 34 2 rfl rfl ?_
          refine PW.pick [1, 2, 3, 0] rfl ?_
          exact n_callV (N := mX5_readTerm) (as := [(0, x1)]) (st := []) (q := 69) (d' := e) 35 rfl uX5_readTerm kX5_105 rfl c2 h (hd := by omega)
        · have hb := bI_t hb
          have b11 := hb
          replace h := h.2 hb
          refine s_bipush (q := 48) 23 rfl ?_
          refine s_goto (tgt := 53) 24 rfl rfl ?_
          refine s_istore_n (q := 54) (lv' := [(3, (0, 6)), (0, (2, x0)), (1, (0, x1)), (2, (0, x2))]) 26 rfl rfl ?_
          refine s_aload_n (q := 55) 27 1 rfl rfl ?_
          refine s_dup (q := 56) 28 rfl ?_
          refine n_getf (q := 59) (jj := 4) 29 5 4 rfl kX5_33 c2 ?_
          refine s_iconst (q := 60) 30 rfl ?_
          obtain ⟨c13, h⟩ := h
          refine n_iadd (q := 61) 31 rfl c13 ?_
          refine n_putf (q := 64) (jj := 4) 32 5 4 rfl kX5_33 c2 (Or.inl rfl) ?_
          refine PW.nameF (fun F4 eF4 => ?_)
          replace h := h F4 eF4
          refine s_aload_n (q := 65) 33 1 rfl rfl ?_
          refine s_iload_n (q := 66) 34 2 rfl rfl ?_
          refine PW.pick [1, 2, 3, 0] rfl ?_
          exact n_callV (N := mX5_readTerm) (as := [(0, x1)]) (st := []) (q := 69) (d' := e) 35 rfl uX5_readTerm kX5_105 rfl c2 h (hd := by omega)
theorem vX5_readSum_69 {l : Launch} {G : pG} {d e : Nat} (hd : e + 1 ≤ d) (hB : 12 ≤ d) {bg : Nat × Nat} {n : Nat} {K : Int → Nat × Nat} {F E : Int → Int → Int} {Q : Option pV → pM → Prop} (x0 x1 x2 x3 s0 : Int) (h : ((¬ s0 = 0 → (K x0).1 = 5 ∧ (K (F x0 1)).1 = 9 ∧ PC l G 0 mX9_emit (0, 0) [(2, F x0 1), (0, x3), (0, 0)] (n, K, F, E) (fun r μ => PW l G d mX5_readSum bg 83 [(0, (2, x0)), (1, (0, x1)), (2, (0, x2))] (r.toList ++ []) μ Q)) ∧ (s0 = 0 → Q (some (0, 0)) (n, K, F, E)))) : PW l G d mX5_readSum bg 69 [(0, (2, x0)), (1, (0, x1)), (2, (0, x2)), (3, (0, x3))] [(0, s0)] (n, K, F, E) Q := by
  refine s_if_ne (q := 72) (tgt := 74) 36 rfl rfl (fun hb => ?_) (fun hb => ?_)
  · skip
    have b1 := hb
    replace h := h.1 hb
    refine s_aload_n (q := 75) 39 0 rfl rfl ?_
    obtain ⟨c2, h⟩ := h
    refine n_getf (q := 78) (jj := 1) 40 5 1 rfl kX5_21 c2 ?_
    refine s_iload_n (q := 79) 41 3 rfl rfl ?_
    refine s_iconst (q := 80) 42 rfl ?_
    obtain ⟨c3, h⟩ := h
    refine PW.pick [0, 1, 2] rfl ?_
    exact n_callV (N := mX9_emit) (as := [(0, x3), (0, 0)]) (st := []) (q := 83) (d' := 0) 43 rfl uX9_emit kX5_82 rfl c3 h (hd := by omega)
  · have hb := Classical.not_not.mp hb
    have b1 := hb
    replace h := h.2 hb
    refine s_iconst (q := 73) 37 rfl ?_
    exact s_zret 38 rfl rfl (by decide) h
theorem vX5_readSum_83 {l : Launch} {G : pG} {d e : Nat} (hd : e + 1 ≤ d) (hB : 12 ≤ d) {bg : Nat × Nat} {n : Nat} {K : Int → Nat × Nat} {F E : Int → Int → Int} {Q : Option pV → pM → Prop} (x0 x1 x2 s0 : Int) (h : (-2147483648 ≤ x2 + 1 ∧ x2 + 1 < 2147483648) ∧ PW l G d mX5_readSum bg 12 [(0, (2, x0)), (1, (0, x1)), (2, (0, x2 + 1))] [] (n, K, F, E) Q) : PW l G d mX5_readSum bg 83 [(0, (2, x0)), (1, (0, x1)), (2, (0, x2))] [(0, s0)] (n, K, F, E) Q := by
  refine s_pop (q := 84) 44 rfl ?_
  obtain ⟨c1, h⟩ := h
  refine n_iinc (q := 87) (lv' := [(2, (0, x2 + 1)), (0, (2, x0)), (1, (0, x1))]) 45 2 rfl rfl c1 rfl ?_
  refine s_goto (tgt := 12) 46 rfl rfl ?_
  refine PW.pick [1, 2, 0] rfl ?_
  exact h
theorem vX5_readTerm_0 {l : Launch} {G : pG} {d e : Nat} (hd : e + 1 ≤ d) (hB : 12 ≤ d) {bg : Nat × Nat} {n : Nat} {K : Int → Nat × Nat} {F E : Int → Int → Int} {Q : Option pV → pM → Prop} (x0 x1 : Int) (h : (K x0).1 = 5 ∧ PC l G e mX5_readPart (0, 0) [(2, x0), (0, x1)] (n, K, F, E) (fun r μ => PW l G d mX5_readTerm bg 5 [(0, (2, x0)), (1, (0, x1))] (r.toList ++ []) μ Q)) : PW l G d mX5_readTerm bg 0 [(0, (2, x0)), (1, (0, x1))] [] (n, K, F, E) Q := by
  refine s_aload_n (q := 1) 0 0 rfl rfl ?_
  refine s_iload_n (q := 2) 1 1 rfl rfl ?_
  obtain ⟨c1, h⟩ := h
  refine PW.pick [0, 1] rfl ?_
  exact n_callV (N := mX5_readPart) (as := [(0, x1)]) (st := []) (q := 5) (d' := e) 2 rfl uX5_readPart kX5_108 rfl c1 h (hd := by omega)
theorem vX5_readTerm_5 {l : Launch} {G : pG} {d e : Nat} (hd : e + 1 ≤ d) (hB : 12 ≤ d) {bg : Nat × Nat} {n : Nat} {K : Int → Nat × Nat} {F E : Int → Int → Int} {Q : Option pV → pM → Prop} (x0 x1 s0 : Int) (h : ((¬ s0 = 0 → PW l G d mX5_readTerm bg 12 [(0, (2, x0)), (1, (0, x1)), (2, (0, 0))] [] (n, K, F, E) Q) ∧ (s0 = 0 → Q (some (0, 0)) (n, K, F, E)))) : PW l G d mX5_readTerm bg 5 [(0, (2, x0)), (1, (0, x1))] [(0, s0)] (n, K, F, E) Q := by
  refine s_if_ne (q := 8) (tgt := 10) 3 rfl rfl (fun hb => ?_) (fun hb => ?_)
  · skip
    have b1 := hb
    replace h := h.1 hb
    refine s_iconst (q := 11) 6 rfl ?_
    refine s_istore_n (q := 12) (lv' := [(2, (0, 0)), (0, (2, x0)), (1, (0, x1))]) 7 rfl rfl ?_
    refine PW.pick [1, 2, 0] rfl ?_
    exact h
  · have hb := Classical.not_not.mp hb
    have b1 := hb
    replace h := h.2 hb
    refine s_iconst (q := 9) 4 rfl ?_
    exact s_zret 5 rfl rfl (by decide) h
theorem vX5_readTerm_12 {l : Launch} {G : pG} {d e : Nat} (hd : e + 1 ≤ d) (hB : 12 ≤ d) {bg : Nat × Nat} {n : Nat} {K : Int → Nat × Nat} {F E : Int → Int → Int} {Q : Option pV → pM → Prop} (x0 x1 x2 : Int) (h : ((400 ≤ x2 → Q (some (0, 1)) (n, K, F, E)) ∧ (¬ (400 ≤ x2) → (K x0).1 = 5 ∧ (K (F x0 0)).1 = 10 ∧ (K (F (F x0 0) 1)).1 = 20 ∧ ((0 : Int) ≤ F x0 4 ∧ F x0 4 < ((K (F (F x0 0) 1)).2 : Int)) ∧ ((E (F (F x0 0) 1) (F x0 4) = 42 → ((¬ (E (F (F x0 0) 1) (F x0 4) = 42) → ((¬ (E (F (F x0 0) 1) (F x0 4) = 47) → (-2147483648 ≤ (F x0 4) + 1 ∧ (F x0 4) + 1 < 2147483648) ∧ (∀ F1, F1 = pUp F x0 4 ((F x0 4) + 1) → PC l G e mX5_readPart (0, 0) [(2, x0), (0, x1)] (n, K, F1, E) (fun r μ => PW l G d mX5_readTerm bg 92 [(0, (2, x0)), (1, (0, x1)), (2, (0, x2)), (3, (0, 10))] (r.toList ++ []) μ Q))) ∧ (E (F (F x0 0) 1) (F x0 4) = 47 → (-2147483648 ≤ (F x0 4) + 1 ∧ (F x0 4) + 1 < 2147483648) ∧ (∀ F2, F2 = pUp F x0 4 ((F x0 4) + 1) → PC l G e mX5_readPart (0, 0) [(2, x0), (0, x1)] (n, K, F2, E) (fun r μ => PW l G d mX5_readTerm bg 92 [(0, (2, x0)), (1, (0, x1)), (2, (0, x2)), (3, (0, 9))] (r.toList ++ []) μ Q))))) ∧ (E (F (F x0 0) 1) (F x0 4) = 42 → (-2147483648 ≤ (F x0 4) + 1 ∧ (F x0 4) + 1 < 2147483648) ∧ (∀ F3, F3 = pUp F x0 4 ((F x0 4) + 1) → PC l G e mX5_readPart (0, 0) [(2, x0), (0, x1)] (n, K, F3, E) (fun r μ => PW l G d mX5_readTerm bg 92 [(0, (2, x0)), (1, (0, x1)), (2, (0, x2)), (3, (0, 8))] (r.toList ++ []) μ Q))))) ∧ (¬ (E (F (F x0 0) 1) (F x0 4) = 42) → ((E (F (F x0 0) 1) (F x0 4) = 47 → ((¬ (E (F (F x0 0) 1) (F x0 4) = 42) → ((¬ (E (F (F x0 0) 1) (F x0 4) = 47) → (-2147483648 ≤ (F x0 4) + 1 ∧ (F x0 4) + 1 < 2147483648) ∧ (∀ F4, F4 = pUp F x0 4 ((F x0 4) + 1) → PC l G e mX5_readPart (0, 0) [(2, x0), (0, x1)] (n, K, F4, E) (fun r μ => PW l G d mX5_readTerm bg 92 [(0, (2, x0)), (1, (0, x1)), (2, (0, x2)), (3, (0, 10))] (r.toList ++ []) μ Q))) ∧ (E (F (F x0 0) 1) (F x0 4) = 47 → (-2147483648 ≤ (F x0 4) + 1 ∧ (F x0 4) + 1 < 2147483648) ∧ (∀ F5, F5 = pUp F x0 4 ((F x0 4) + 1) → PC l G e mX5_readPart (0, 0) [(2, x0), (0, x1)] (n, K, F5, E) (fun r μ => PW l G d mX5_readTerm bg 92 [(0, (2, x0)), (1, (0, x1)), (2, (0, x2)), (3, (0, 9))] (r.toList ++ []) μ Q))))) ∧ (E (F (F x0 0) 1) (F x0 4) = 42 → (-2147483648 ≤ (F x0 4) + 1 ∧ (F x0 4) + 1 < 2147483648) ∧ (∀ F6, F6 = pUp F x0 4 ((F x0 4) + 1) → PC l G e mX5_readPart (0, 0) [(2, x0), (0, x1)] (n, K, F6, E) (fun r μ => PW l G d mX5_readTerm bg 92 [(0, (2, x0)), (1, (0, x1)), (2, (0, x2)), (3, (0, 8))] (r.toList ++ []) μ Q))))) ∧ (¬ (E (F (F x0 0) 1) (F x0 4) = 47) → ((¬ (E (F (F x0 0) 1) (F x0 4) = 37) → Q (some (0, 1)) (n, K, F, E)) ∧ (E (F (F x0 0) 1) (F x0 4) = 37 → ((¬ (E (F (F x0 0) 1) (F x0 4) = 42) → ((¬ (E (F (F x0 0) 1) (F x0 4) = 47) → (-2147483648 ≤ (F x0 4) + 1 ∧ (F x0 4) + 1 < 2147483648) ∧ (∀ F7, F7 = pUp F x0 4 ((F x0 4) + 1) → PC l G e mX5_readPart (0, 0) [(2, x0), (0, x1)] (n, K, F7, E) (fun r μ => PW l G d mX5_readTerm bg 92 [(0, (2, x0)), (1, (0, x1)), (2, (0, x2)), (3, (0, 10))] (r.toList ++ []) μ Q))) ∧ (E (F (F x0 0) 1) (F x0 4) = 47 → (-2147483648 ≤ (F x0 4) + 1 ∧ (F x0 4) + 1 < 2147483648) ∧ (∀ F8, F8 = pUp F x0 4 ((F x0 4) + 1) → PC l G e mX5_readPart (0, 0) [(2, x0), (0, x1)] (n, K, F8, E) (fun r μ => PW l G d mX5_readTerm bg 92 [(0, (2, x0)), (1, (0, x1)), (2, (0, x2)), (3, (0, 9))] (r.toList ++ []) μ Q))))) ∧ (E (F (F x0 0) 1) (F x0 4) = 42 → (-2147483648 ≤ (F x0 4) + 1 ∧ (F x0 4) + 1 < 2147483648) ∧ (∀ F9, F9 = pUp F x0 4 ((F x0 4) + 1) → PC l G e mX5_readPart (0, 0) [(2, x0), (0, x1)] (n, K, F9, E) (fun r μ => PW l G d mX5_readTerm bg 92 [(0, (2, x0)), (1, (0, x1)), (2, (0, x2)), (3, (0, 8))] (r.toList ++ []) μ Q))))))))))))) : PW l G d mX5_readTerm bg 12 [(0, (2, x0)), (1, (0, x1)), (2, (0, x2))] [] (n, K, F, E) Q := by
  refine s_iload_n (q := 13) 8 2 rfl rfl ?_
  refine s_sipush (q := 16) 9 rfl ?_
  refine s_icmp_ge (q := 19) (tgt := 113) 10 rfl rfl (fun hb => ?_) (fun hb => ?_)
  · skip
    have b1 := hb
    replace h := h.1 hb
    refine s_iconst (q := 114) 57 rfl ?_
    exact s_zret 58 rfl rfl (by decide) h
  · skip
    have b1 := hb
    replace h := h.2 hb
    refine s_aload_n (q := 20) 11 0 rfl rfl ?_
    refine s_bipush (q := 22) 12 rfl ?_
    obtain ⟨c2, h⟩ := h
    obtain ⟨c3, h⟩ := h
    obtain ⟨c4, h⟩ := h
    obtain ⟨c5, h⟩ := h
    refine n_callV (N := mX5_is) (as := [(0, 42)]) (st := []) (q := 25) (d' := 0) 13 rfl uX5_is kX5_53 rfl c2 (pX5_is c2 c3 c4 c5 ?_) (hd := by omega)
    show PW l G d mX5_readTerm bg 25 [(0, (2, x0)), (1, (0, x1)), (2, (0, x2))] [(0, bI (E (F (F x0 0) 1) (F x0 4) = 42))] (n, K, F, E) Q
    refine s_if_ne (q := 28) (tgt := 46) 14 rfl rfl (fun hb => ?_) (fun hb => ?_)
    · have hb := bI_t hb
      have b6 := hb
      replace h := h.1 hb
      refine s_aload_n (q := 47) 23 0 rfl rfl ?_
      refine s_bipush (q := 49) 24 rfl ?_
      refine n_callV (N := mX5_is) (as := [(0, 42)]) (st := []) (q := 52) (d' := 0) 25 rfl uX5_is kX5_53 rfl c2 (pX5_is c2 c3 c4 c5 ?_) (hd := by omega)
      show PW l G d mX5_readTerm bg 52 [(0, (2, x0)), (1, (0, x1)), (2, (0, x2))] [(0, bI (E (F (F x0 0) 1) (F x0 4) = 42))] (n, K, F, E) Q
      refine s_if_eq (q := 55) (tgt := 60) 26 rfl rfl (fun hb => ?_) (fun hb => ?_)
      · have hb := bI_f hb
        have b7 := hb
        replace h := h.1 hb
        refine s_aload_n (q := 61) 29 0 rfl rfl ?_
        refine s_bipush (q := 63) 30 rfl ?_
        refine n_callV (N := mX5_is) (as := [(0, 47)]) (st := []) (q := 66) (d' := 0) 31 rfl uX5_is kX5_53 rfl c2 (pX5_is c2 c3 c4 c5 ?_) (hd := by omega)
        show PW l G d mX5_readTerm bg 66 [(0, (2, x0)), (1, (0, x1)), (2, (0, x2))] [(0, bI (E (F (F x0 0) 1) (F x0 4) = 47))] (n, K, F, E) Q
        refine s_if_eq (q := 69) (tgt := 74) 32 rfl rfl (fun hb => ?_) (fun hb => ?_)
        · have hb := bI_f hb
          have b8 := hb
          replace h := h.1 hb
          refine s_bipush (q := 76) 35 rfl ?_
          refine s_istore_n (q := 77) (lv' := [(3, (0, 10)), (0, (2, x0)), (1, (0, x1)), (2, (0, x2))]) 36 rfl rfl ?_
          refine s_aload_n (q := 78) 37 1 rfl rfl ?_
          refine s_dup (q := 79) 38 rfl ?_
          refine n_getf (q := 82) (jj := 4) 39 5 4 rfl kX5_33 c2 ?_
          refine s_iconst (q := 83) 40 rfl ?_
          obtain ⟨c9, h⟩ := h
          refine n_iadd (q := 84) 41 rfl c9 ?_
          refine n_putf (q := 87) (jj := 4) 42 5 4 rfl kX5_33 c2 (Or.inl rfl) ?_
          refine PW.nameF (fun F1 eF1 => ?_)
          replace h := h F1 eF1
          refine s_aload_n (q := 88) 43 1 rfl rfl ?_
          refine s_iload_n (q := 89) 44 2 rfl rfl ?_
          refine PW.pick [1, 2, 3, 0] rfl ?_
          exact n_callV (N := mX5_readPart) (as := [(0, x1)]) (st := []) (q := 92) (d' := e) 45 rfl uX5_readPart kX5_108 rfl c2 h (hd := by omega)
        · have hb := bI_t hb
          have b8 := hb
          replace h := h.2 hb
          refine s_bipush (q := 71) 33 rfl ?_
          refine s_goto (tgt := 76) 34 rfl rfl ?_
          refine s_istore_n (q := 77) (lv' := [(3, (0, 9)), (0, (2, x0)), (1, (0, x1)), (2, (0, x2))]) 36 rfl rfl ?_
          refine s_aload_n (q := 78) 37 1 rfl rfl ?_
          refine s_dup (q := 79) 38 rfl ?_
          refine n_getf (q := 82) (jj := 4) 39 5 4 rfl kX5_33 c2 ?_
          refine s_iconst (q := 83) 40 rfl ?_
          obtain ⟨c10, h⟩ := h
          refine n_iadd (q := 84) 41 rfl c10 ?_
          refine n_putf (q := 87) (jj := 4) 42 5 4 rfl kX5_33 c2 (Or.inl rfl) ?_
          refine PW.nameF (fun F2 eF2 => ?_)
          replace h := h F2 eF2
          refine s_aload_n (q := 88) 43 1 rfl rfl ?_
          refine s_iload_n (q := 89) 44 2 rfl rfl ?_
          refine PW.pick [1, 2, 3, 0] rfl ?_
          exact n_callV (N := mX5_readPart) (as := [(0, x1)]) (st := []) (q := 92) (d' := e) 45 rfl uX5_readPart kX5_108 rfl c2 h (hd := by omega)
      · have hb := bI_t hb
        have b7 := hb
        replace h := h.2 hb
        refine s_bipush (q := 57) 27 rfl ?_
        refine s_goto (tgt := 76) 28 rfl rfl ?_
        refine s_istore_n (q := 77) (lv' := [(3, (0, 8)), (0, (2, x0)), (1, (0, x1)), (2, (0, x2))]) 36 rfl rfl ?_
        refine s_aload_n (q := 78) 37 1 rfl rfl ?_
        refine s_dup (q := 79) 38 rfl ?_
        refine n_getf (q := 82) (jj := 4) 39 5 4 rfl kX5_33 c2 ?_
        refine s_iconst (q := 83) 40 rfl ?_
        obtain ⟨c11, h⟩ := h
        refine n_iadd (q := 84) 41 rfl c11 ?_
        refine n_putf (q := 87) (jj := 4) 42 5 4 rfl kX5_33 c2 (Or.inl rfl) ?_
        refine PW.nameF (fun F3 eF3 => ?_)
        replace h := h F3 eF3
        refine s_aload_n (q := 88) 43 1 rfl rfl ?_
        refine s_iload_n (q := 89) 44 2 rfl rfl ?_
        refine PW.pick [1, 2, 3, 0] rfl ?_
        exact n_callV (N := mX5_readPart) (as := [(0, x1)]) (st := []) (q := 92) (d' := e) 45 rfl uX5_readPart kX5_108 rfl c2 h (hd := by omega)
    · have hb := bI_f2 hb
      have b6 := hb
      replace h := h.2 hb
      refine s_aload_n (q := 29) 15 0 rfl rfl ?_
      refine s_bipush (q := 31) 16 rfl ?_
      refine n_callV (N := mX5_is) (as := [(0, 47)]) (st := []) (q := 34) (d' := 0) 17 rfl uX5_is kX5_53 rfl c2 (pX5_is c2 c3 c4 c5 ?_) (hd := by omega)
      show PW l G d mX5_readTerm bg 34 [(0, (2, x0)), (1, (0, x1)), (2, (0, x2))] [(0, bI (E (F (F x0 0) 1) (F x0 4) = 47))] (n, K, F, E) Q
      refine s_if_ne (q := 37) (tgt := 46) 18 rfl rfl (fun hb => ?_) (fun hb => ?_)
      · have hb := bI_t hb
        have b12 := hb
        replace h := h.1 hb
        refine s_aload_n (q := 47) 23 0 rfl rfl ?_
        refine s_bipush (q := 49) 24 rfl ?_
        refine n_callV (N := mX5_is) (as := [(0, 42)]) (st := []) (q := 52) (d' := 0) 25 rfl uX5_is kX5_53 rfl c2 (pX5_is c2 c3 c4 c5 ?_) (hd := by omega)
        show PW l G d mX5_readTerm bg 52 [(0, (2, x0)), (1, (0, x1)), (2, (0, x2))] [(0, bI (E (F (F x0 0) 1) (F x0 4) = 42))] (n, K, F, E) Q
        refine s_if_eq (q := 55) (tgt := 60) 26 rfl rfl (fun hb => ?_) (fun hb => ?_)
        · have hb := bI_f hb
          have b13 := hb
          replace h := h.1 hb
          refine s_aload_n (q := 61) 29 0 rfl rfl ?_
          refine s_bipush (q := 63) 30 rfl ?_
          refine n_callV (N := mX5_is) (as := [(0, 47)]) (st := []) (q := 66) (d' := 0) 31 rfl uX5_is kX5_53 rfl c2 (pX5_is c2 c3 c4 c5 ?_) (hd := by omega)
          show PW l G d mX5_readTerm bg 66 [(0, (2, x0)), (1, (0, x1)), (2, (0, x2))] [(0, bI (E (F (F x0 0) 1) (F x0 4) = 47))] (n, K, F, E) Q
          refine s_if_eq (q := 69) (tgt := 74) 32 rfl rfl (fun hb => ?_) (fun hb => ?_)
          · have hb := bI_f hb
            have b14 := hb
            replace h := h.1 hb
            refine s_bipush (q := 76) 35 rfl ?_
            refine s_istore_n (q := 77) (lv' := [(3, (0, 10)), (0, (2, x0)), (1, (0, x1)), (2, (0, x2))]) 36 rfl rfl ?_
            refine s_aload_n (q := 78) 37 1 rfl rfl ?_
            refine s_dup (q := 79) 38 rfl ?_
            refine n_getf (q := 82) (jj := 4) 39 5 4 rfl kX5_33 c2 ?_
            refine s_iconst (q := 83) 40 rfl ?_
            obtain ⟨c15, h⟩ := h
            refine n_iadd (q := 84) 41 rfl c15 ?_
            refine n_putf (q := 87) (jj := 4) 42 5 4 rfl kX5_33 c2 (Or.inl rfl) ?_
            refine PW.nameF (fun F4 eF4 => ?_)
            replace h := h F4 eF4
            refine s_aload_n (q := 88) 43 1 rfl rfl ?_
            refine s_iload_n (q := 89) 44 2 rfl rfl ?_
            refine PW.pick [1, 2, 3, 0] rfl ?_
            exact n_callV (N := mX5_readPart) (as := [(0, x1)]) (st := []) (q := 92) (d' := e) 45 rfl uX5_readPart kX5_108 rfl c2 h (hd := by omega)
          · have hb := bI_t hb
            have b14 := hb
            replace h := h.2 hb
            refine s_bipush (q := 71) 33 rfl ?_
            refine s_goto (tgt := 76) 34 rfl rfl ?_
            refine s_istore_n (q := 77) (lv' := [(3, (0, 9)), (0, (2, x0)), (1, (0, x1)), (2, (0, x2))]) 36 rfl rfl ?_
            refine s_aload_n (q := 78) 37 1 rfl rfl ?_
            refine s_dup (q := 79) 38 rfl ?_
            refine n_getf (q := 82) (jj := 4) 39 5 4 rfl kX5_33 c2 ?_
            refine s_iconst (q := 83) 40 rfl ?_
            obtain ⟨c16, h⟩ := h
            refine n_iadd (q := 84) 41 rfl c16 ?_
            refine n_putf (q := 87) (jj := 4) 42 5 4 rfl kX5_33 c2 (Or.inl rfl) ?_
            refine PW.nameF (fun F5 eF5 => ?_)
            replace h := h F5 eF5
            refine s_aload_n (q := 88) 43 1 rfl rfl ?_
            refine s_iload_n (q := 89) 44 2 rfl rfl ?_
            refine PW.pick [1, 2, 3, 0] rfl ?_
            exact n_callV (N := mX5_readPart) (as := [(0, x1)]) (st := []) (q := 92) (d' := e) 45 rfl uX5_readPart kX5_108 rfl c2 h (hd := by omega)
        · have hb := bI_t hb
          have b13 := hb
          replace h := h.2 hb
          refine s_bipush (q := 57) 27 rfl ?_
          refine s_goto (tgt := 76) 28 rfl rfl ?_
          refine s_istore_n (q := 77) (lv' := [(3, (0, 8)), (0, (2, x0)), (1, (0, x1)), (2, (0, x2))]) 36 rfl rfl ?_
          refine s_aload_n (q := 78) 37 1 rfl rfl ?_
          refine s_dup (q := 79) 38 rfl ?_
          refine n_getf (q := 82) (jj := 4) 39 5 4 rfl kX5_33 c2 ?_
          refine s_iconst (q := 83) 40 rfl ?_
          obtain ⟨c17, h⟩ := h
          refine n_iadd (q := 84) 41 rfl c17 ?_
          refine n_putf (q := 87) (jj := 4) 42 5 4 rfl kX5_33 c2 (Or.inl rfl) ?_
          refine PW.nameF (fun F6 eF6 => ?_)
          replace h := h F6 eF6
          refine s_aload_n (q := 88) 43 1 rfl rfl ?_
          refine s_iload_n (q := 89) 44 2 rfl rfl ?_
          refine PW.pick [1, 2, 3, 0] rfl ?_
          exact n_callV (N := mX5_readPart) (as := [(0, x1)]) (st := []) (q := 92) (d' := e) 45 rfl uX5_readPart kX5_108 rfl c2 h (hd := by omega)
      · have hb := bI_f2 hb
        have b12 := hb
        replace h := h.2 hb
        refine s_aload_n (q := 38) 19 0 rfl rfl ?_
        refine s_bipush (q := 40) 20 rfl ?_
        refine n_callV (N := mX5_is) (as := [(0, 37)]) (st := []) (q := 43) (d' := 0) 21 rfl uX5_is kX5_53 rfl c2 (pX5_is c2 c3 c4 c5 ?_) (hd := by omega)
        show PW l G d mX5_readTerm bg 43 [(0, (2, x0)), (1, (0, x1)), (2, (0, x2))] [(0, bI (E (F (F x0 0) 1) (F x0 4) = 37))] (n, K, F, E) Q
        refine s_if_eq (q := 46) (tgt := 113) 22 rfl rfl (fun hb => ?_) (fun hb => ?_)
        · have hb := bI_f hb
          have b18 := hb
          replace h := h.1 hb
          refine s_iconst (q := 114) 57 rfl ?_
          exact s_zret 58 rfl rfl (by decide) h
        · have hb := bI_t hb
          have b18 := hb
          replace h := h.2 hb
          refine s_aload_n (q := 47) 23 0 rfl rfl ?_
          refine s_bipush (q := 49) 24 rfl ?_
          refine n_callV (N := mX5_is) (as := [(0, 42)]) (st := []) (q := 52) (d' := 0) 25 rfl uX5_is kX5_53 rfl c2 (pX5_is c2 c3 c4 c5 ?_) (hd := by omega)
          show PW l G d mX5_readTerm bg 52 [(0, (2, x0)), (1, (0, x1)), (2, (0, x2))] [(0, bI (E (F (F x0 0) 1) (F x0 4) = 42))] (n, K, F, E) Q
          refine s_if_eq (q := 55) (tgt := 60) 26 rfl rfl (fun hb => ?_) (fun hb => ?_)
          · have hb := bI_f hb
            have b19 := hb
            replace h := h.1 hb
            refine s_aload_n (q := 61) 29 0 rfl rfl ?_
            refine s_bipush (q := 63) 30 rfl ?_
            refine n_callV (N := mX5_is) (as := [(0, 47)]) (st := []) (q := 66) (d' := 0) 31 rfl uX5_is kX5_53 rfl c2 (pX5_is c2 c3 c4 c5 ?_) (hd := by omega)
            show PW l G d mX5_readTerm bg 66 [(0, (2, x0)), (1, (0, x1)), (2, (0, x2))] [(0, bI (E (F (F x0 0) 1) (F x0 4) = 47))] (n, K, F, E) Q
            refine s_if_eq (q := 69) (tgt := 74) 32 rfl rfl (fun hb => ?_) (fun hb => ?_)
            · have hb := bI_f hb
              have b20 := hb
              replace h := h.1 hb
              refine s_bipush (q := 76) 35 rfl ?_
              refine s_istore_n (q := 77) (lv' := [(3, (0, 10)), (0, (2, x0)), (1, (0, x1)), (2, (0, x2))]) 36 rfl rfl ?_
              refine s_aload_n (q := 78) 37 1 rfl rfl ?_
              refine s_dup (q := 79) 38 rfl ?_
              refine n_getf (q := 82) (jj := 4) 39 5 4 rfl kX5_33 c2 ?_
              refine s_iconst (q := 83) 40 rfl ?_
              obtain ⟨c21, h⟩ := h
              refine n_iadd (q := 84) 41 rfl c21 ?_
              refine n_putf (q := 87) (jj := 4) 42 5 4 rfl kX5_33 c2 (Or.inl rfl) ?_
              refine PW.nameF (fun F7 eF7 => ?_)
              replace h := h F7 eF7
              refine s_aload_n (q := 88) 43 1 rfl rfl ?_
              refine s_iload_n (q := 89) 44 2 rfl rfl ?_
              refine PW.pick [1, 2, 3, 0] rfl ?_
              exact n_callV (N := mX5_readPart) (as := [(0, x1)]) (st := []) (q := 92) (d' := e) 45 rfl uX5_readPart kX5_108 rfl c2 h (hd := by omega)
            · have hb := bI_t hb
              have b20 := hb
              replace h := h.2 hb
              refine s_bipush (q := 71) 33 rfl ?_
              refine s_goto (tgt := 76) 34 rfl rfl ?_
              refine s_istore_n (q := 77) (lv' := [(3, (0, 9)), (0, (2, x0)), (1, (0, x1)), (2, (0, x2))]) 36 rfl rfl ?_
              refine s_aload_n (q := 78) 37 1 rfl rfl ?_
              refine s_dup (q := 79) 38 rfl ?_
              refine n_getf (q := 82) (jj := 4) 39 5 4 rfl kX5_33 c2 ?_
              refine s_iconst (q := 83) 40 rfl ?_
              obtain ⟨c22, h⟩ := h
              refine n_iadd (q := 84) 41 rfl c22 ?_
              refine n_putf (q := 87) (jj := 4) 42 5 4 rfl kX5_33 c2 (Or.inl rfl) ?_
              refine PW.nameF (fun F8 eF8 => ?_)
              replace h := h F8 eF8
              refine s_aload_n (q := 88) 43 1 rfl rfl ?_
              refine s_iload_n (q := 89) 44 2 rfl rfl ?_
              refine PW.pick [1, 2, 3, 0] rfl ?_
              exact n_callV (N := mX5_readPart) (as := [(0, x1)]) (st := []) (q := 92) (d' := e) 45 rfl uX5_readPart kX5_108 rfl c2 h (hd := by omega)
          · have hb := bI_t hb
            have b19 := hb
            replace h := h.2 hb
            refine s_bipush (q := 57) 27 rfl ?_
            refine s_goto (tgt := 76) 28 rfl rfl ?_
            refine s_istore_n (q := 77) (lv' := [(3, (0, 8)), (0, (2, x0)), (1, (0, x1)), (2, (0, x2))]) 36 rfl rfl ?_
            refine s_aload_n (q := 78) 37 1 rfl rfl ?_
            refine s_dup (q := 79) 38 rfl ?_
            refine n_getf (q := 82) (jj := 4) 39 5 4 rfl kX5_33 c2 ?_
            refine s_iconst (q := 83) 40 rfl ?_
            obtain ⟨c23, h⟩ := h
            refine n_iadd (q := 84) 41 rfl c23 ?_
            refine n_putf (q := 87) (jj := 4) 42 5 4 rfl kX5_33 c2 (Or.inl rfl) ?_
            refine PW.nameF (fun F9 eF9 => ?_)
            replace h := h F9 eF9
            refine s_aload_n (q := 88) 43 1 rfl rfl ?_
            refine s_iload_n (q := 89) 44 2 rfl rfl ?_
            refine PW.pick [1, 2, 3, 0] rfl ?_
            exact n_callV (N := mX5_readPart) (as := [(0, x1)]) (st := []) (q := 92) (d' := e) 45 rfl uX5_readPart kX5_108 rfl c2 h (hd := by omega)
theorem vX5_readTerm_92 {l : Launch} {G : pG} {d e : Nat} (hd : e + 1 ≤ d) (hB : 12 ≤ d) {bg : Nat × Nat} {n : Nat} {K : Int → Nat × Nat} {F E : Int → Int → Int} {Q : Option pV → pM → Prop} (x0 x1 x2 x3 s0 : Int) (h : ((¬ s0 = 0 → (K x0).1 = 5 ∧ (K (F x0 1)).1 = 9 ∧ PC l G 0 mX9_emit (0, 0) [(2, F x0 1), (0, x3), (0, 0)] (n, K, F, E) (fun r μ => PW l G d mX5_readTerm bg 106 [(0, (2, x0)), (1, (0, x1)), (2, (0, x2))] (r.toList ++ []) μ Q)) ∧ (s0 = 0 → Q (some (0, 0)) (n, K, F, E)))) : PW l G d mX5_readTerm bg 92 [(0, (2, x0)), (1, (0, x1)), (2, (0, x2)), (3, (0, x3))] [(0, s0)] (n, K, F, E) Q := by
  refine s_if_ne (q := 95) (tgt := 97) 46 rfl rfl (fun hb => ?_) (fun hb => ?_)
  · skip
    have b1 := hb
    replace h := h.1 hb
    refine s_aload_n (q := 98) 49 0 rfl rfl ?_
    obtain ⟨c2, h⟩ := h
    refine n_getf (q := 101) (jj := 1) 50 5 1 rfl kX5_21 c2 ?_
    refine s_iload_n (q := 102) 51 3 rfl rfl ?_
    refine s_iconst (q := 103) 52 rfl ?_
    obtain ⟨c3, h⟩ := h
    refine PW.pick [0, 1, 2] rfl ?_
    exact n_callV (N := mX9_emit) (as := [(0, x3), (0, 0)]) (st := []) (q := 106) (d' := 0) 53 rfl uX9_emit kX5_82 rfl c3 h (hd := by omega)
  · have hb := Classical.not_not.mp hb
    have b1 := hb
    replace h := h.2 hb
    refine s_iconst (q := 96) 47 rfl ?_
    exact s_zret 48 rfl rfl (by decide) h
theorem vX5_readTerm_106 {l : Launch} {G : pG} {d e : Nat} (hd : e + 1 ≤ d) (hB : 12 ≤ d) {bg : Nat × Nat} {n : Nat} {K : Int → Nat × Nat} {F E : Int → Int → Int} {Q : Option pV → pM → Prop} (x0 x1 x2 s0 : Int) (h : (-2147483648 ≤ x2 + 1 ∧ x2 + 1 < 2147483648) ∧ PW l G d mX5_readTerm bg 12 [(0, (2, x0)), (1, (0, x1)), (2, (0, x2 + 1))] [] (n, K, F, E) Q) : PW l G d mX5_readTerm bg 106 [(0, (2, x0)), (1, (0, x1)), (2, (0, x2))] [(0, s0)] (n, K, F, E) Q := by
  refine s_pop (q := 107) 54 rfl ?_
  obtain ⟨c1, h⟩ := h
  refine n_iinc (q := 110) (lv' := [(2, (0, x2 + 1)), (0, (2, x0)), (1, (0, x1))]) 55 2 rfl rfl c1 rfl ?_
  refine s_goto (tgt := 12) 56 rfl rfl ?_
  refine PW.pick [1, 2, 0] rfl ?_
  exact h
theorem vX5_readPart_0 {l : Launch} {G : pG} {d e : Nat} (hd : e + 1 ≤ d) (hB : 12 ≤ d) {bg : Nat × Nat} {n : Nat} {K : Int → Nat × Nat} {F E : Int → Int → Int} {Q : Option pV → pM → Prop} (x0 x1 : Int) (h : (K x0).1 = 5 ∧ (K (F x0 0)).1 = 10 ∧ (K (F (F x0 0) 1)).1 = 20 ∧ ((0 : Int) ≤ F x0 4 ∧ F x0 4 < ((K (F (F x0 0) 1)).2 : Int)) ∧ ((E (F (F x0 0) 1) (F x0 4) = 91 → ((x1 < 8 → (-2147483648 ≤ (F x0 4) + 1 ∧ (F x0 4) + 1 < 2147483648) ∧ (∀ F1, F1 = pUp F x0 4 ((F x0 4) + 1) → (-2147483648 ≤ x1 + 1 ∧ x1 + 1 < 2147483648) ∧ PC l G e mX5_readSum (0, 0) [(2, x0), (0, x1 + 1)] (n, K, F1, E) (fun r μ => PW l G d mX5_readPart bg 56 [(0, (2, x0))] (r.toList ++ []) μ Q))) ∧ (¬ (x1 < 8) → Q (some (0, 0)) (n, K, F, E)))) ∧ (¬ (E (F (F x0 0) 1) (F x0 4) = 91) → ((50 ≤ F x0 3 → Q (some (0, 0)) (n, K, F, E)) ∧ (¬ (50 ≤ F x0 3) → PC l G 1 mX5_readSingle (0, 0) [(2, x0)] (n, K, F, E) (fun r μ => PW l G d mX5_readPart bg 22 [] (r.toList ++ []) μ Q)))))) : PW l G d mX5_readPart bg 0 [(0, (2, x0)), (1, (0, x1))] [] (n, K, F, E) Q := by
  refine s_aload_n (q := 1) 0 0 rfl rfl ?_
  refine s_bipush (q := 3) 1 rfl ?_
  obtain ⟨c1, h⟩ := h
  obtain ⟨c2, h⟩ := h
  obtain ⟨c3, h⟩ := h
  obtain ⟨c4, h⟩ := h
  refine n_callV (N := mX5_is) (as := [(0, 91)]) (st := []) (q := 6) (d' := 0) 2 rfl uX5_is kX5_53 rfl c1 (pX5_is c1 c2 c3 c4 ?_) (hd := by omega)
  show PW l G d mX5_readPart bg 6 [(0, (2, x0)), (1, (0, x1))] [(0, bI (E (F (F x0 0) 1) (F x0 4) = 91))] (n, K, F, E) Q
  refine s_if_ne (q := 9) (tgt := 31) 3 rfl rfl (fun hb => ?_) (fun hb => ?_)
  · have hb := bI_t hb
    have b5 := hb
    replace h := h.1 hb
    refine s_iload_n (q := 32) 15 1 rfl rfl ?_
    refine s_bipush (q := 34) 16 rfl ?_
    refine s_icmp_lt (q := 37) (tgt := 39) 17 rfl rfl (fun hb => ?_) (fun hb => ?_)
    · skip
      have b6 := hb
      replace h := h.1 hb
      refine s_aload_n (q := 40) 20 0 rfl rfl ?_
      refine s_dup (q := 41) 21 rfl ?_
      refine n_getf (q := 44) (jj := 4) 22 5 4 rfl kX5_33 c1 ?_
      refine s_iconst (q := 45) 23 rfl ?_
      obtain ⟨c7, h⟩ := h
      refine n_iadd (q := 46) 24 rfl c7 ?_
      refine n_putf (q := 49) (jj := 4) 25 5 4 rfl kX5_33 c1 (Or.inl rfl) ?_
      refine PW.nameF (fun F1 eF1 => ?_)
      replace h := h F1 eF1
      refine s_aload_n (q := 50) 26 0 rfl rfl ?_
      refine s_iload_n (q := 51) 27 1 rfl rfl ?_
      refine s_iconst (q := 52) 28 rfl ?_
      obtain ⟨c8, h⟩ := h
      refine n_iadd (q := 53) 29 rfl c8 ?_
      refine PW.pick [0] rfl ?_
      exact n_callV (N := mX5_readSum) (as := [(0, x1 + 1)]) (st := []) (q := 56) (d' := e) 30 rfl uX5_readSum kX5_90 rfl c1 h (hd := by omega)
    · skip
      have b6 := hb
      replace h := h.2 hb
      refine s_iconst (q := 38) 18 rfl ?_
      exact s_zret 19 rfl rfl (by decide) h
  · have hb := bI_f2 hb
    have b5 := hb
    replace h := h.2 hb
    refine s_aload_n (q := 10) 4 0 rfl rfl ?_
    refine n_getf (q := 13) (jj := 3) 5 5 3 rfl kX5_29 c1 ?_
    refine s_bipush (q := 15) 6 rfl ?_
    refine s_icmp_ge (q := 18) (tgt := 29) 7 rfl rfl (fun hb => ?_) (fun hb => ?_)
    · skip
      have b9 := hb
      replace h := h.1 hb
      refine s_iconst (q := 30) 13 rfl ?_
      exact s_zret 14 rfl rfl (by decide) h
    · skip
      have b9 := hb
      replace h := h.2 hb
      refine s_aload_n (q := 19) 8 0 rfl rfl ?_
      refine PW.pick [] rfl ?_
      exact n_callV (N := mX5_readSingle) (as := []) (st := []) (q := 22) (d' := 1) 9 rfl uX5_readSingle kX5_111 rfl c1 h (hd := by omega)
theorem vX5_readPart_22 {l : Launch} {G : pG} {d e : Nat} (hd : e + 1 ≤ d) (hB : 12 ≤ d) {bg : Nat × Nat} {n : Nat} {K : Int → Nat × Nat} {F E : Int → Int → Int} {Q : Option pV → pM → Prop} (s0 : Int) (h : ((s0 = 0 → Q (some (0, 0)) (n, K, F, E)) ∧ (¬ (s0 = 0) → Q (some (0, 1)) (n, K, F, E)))) : PW l G d mX5_readPart bg 22 [] [(0, s0)] (n, K, F, E) Q := by
  refine s_if_eq (q := 25) (tgt := 29) 10 rfl rfl (fun hb => ?_) (fun hb => ?_)
  · skip
    have b1 := hb
    replace h := h.1 hb
    refine s_iconst (q := 30) 13 rfl ?_
    exact s_zret 14 rfl rfl (by decide) h
  · skip
    have b1 := hb
    replace h := h.2 hb
    refine s_iconst (q := 26) 11 rfl ?_
    refine s_goto (tgt := 30) 12 rfl rfl ?_
    exact s_zret 14 rfl rfl (by decide) h
theorem vX5_readPart_56 {l : Launch} {G : pG} {d e : Nat} (hd : e + 1 ≤ d) (hB : 12 ≤ d) {bg : Nat × Nat} {n : Nat} {K : Int → Nat × Nat} {F E : Int → Int → Int} {Q : Option pV → pM → Prop} (x0 s0 : Int) (h : ((s0 = 0 → Q (some (0, 0)) (n, K, F, E)) ∧ (¬ (s0 = 0) → (K x0).1 = 5 ∧ PC l G 0 mX5_skip (0, 0) [(2, x0), (0, 93)] (n, K, F, E) (fun r μ => PW l G d mX5_readPart bg 65 [] (r.toList ++ []) μ Q)))) : PW l G d mX5_readPart bg 56 [(0, (2, x0))] [(0, s0)] (n, K, F, E) Q := by
  refine s_if_eq (q := 59) (tgt := 72) 31 rfl rfl (fun hb => ?_) (fun hb => ?_)
  · skip
    have b1 := hb
    replace h := h.1 hb
    refine s_iconst (q := 73) 38 rfl ?_
    exact s_zret 39 rfl rfl (by decide) h
  · skip
    have b1 := hb
    replace h := h.2 hb
    refine s_aload_n (q := 60) 32 0 rfl rfl ?_
    refine s_bipush (q := 62) 33 rfl ?_
    obtain ⟨c2, h⟩ := h
    refine PW.pick [] rfl ?_
    exact n_callV (N := mX5_skip) (as := [(0, 93)]) (st := []) (q := 65) (d' := 0) 34 rfl uX5_skip kX5_57 rfl c2 h (hd := by omega)
theorem vX5_readPart_65 {l : Launch} {G : pG} {d e : Nat} (hd : e + 1 ≤ d) (hB : 12 ≤ d) {bg : Nat × Nat} {n : Nat} {K : Int → Nat × Nat} {F E : Int → Int → Int} {Q : Option pV → pM → Prop} (s0 : Int) (h : ((s0 = 0 → Q (some (0, 0)) (n, K, F, E)) ∧ (¬ (s0 = 0) → Q (some (0, 1)) (n, K, F, E)))) : PW l G d mX5_readPart bg 65 [] [(0, s0)] (n, K, F, E) Q := by
  refine s_if_eq (q := 68) (tgt := 72) 35 rfl rfl (fun hb => ?_) (fun hb => ?_)
  · skip
    have b1 := hb
    replace h := h.1 hb
    refine s_iconst (q := 73) 38 rfl ?_
    exact s_zret 39 rfl rfl (by decide) h
  · skip
    have b1 := hb
    replace h := h.2 hb
    refine s_iconst (q := 69) 36 rfl ?_
    refine s_goto (tgt := 73) 37 rfl rfl ?_
    exact s_zret 39 rfl rfl (by decide) h
