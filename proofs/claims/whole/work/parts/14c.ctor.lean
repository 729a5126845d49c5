set_option maxHeartbeats 8000000 in
set_option maxRecDepth 100000 in
theorem vX12_init_0 {l : Launch} {G : pG} {K : Int → Nat × Nat} {F E : Int → Int → Int} {Q : Option pV → pM → Prop} (h : (∀ E1, E1 = pRow E 67 (fun _ => 0) → (∀ F2, F2 = pUp F 66 2 67 → (∀ E3, E3 = pRow E1 68 (fun _ => 0) → (∀ F4, F4 = pUp F2 66 3 68 → (∀ E5, E5 = pRow E3 69 (fun _ => 0) → (∀ F6, F6 = pUp F4 66 4 69 → (∀ E7, E7 = pRow E5 70 (fun _ => 0) → (∀ F8, F8 = pUp F6 66 5 70 → (∀ E9, E9 = pRow E7 71 (fun _ => 0) → (∀ F10, F10 = pUp F8 66 6 71 → (∀ E11, E11 = pRow E9 72 (fun _ => 0) → (∀ F12, F12 = pUp F10 66 7 72 → (∀ E13, E13 = pRow E11 73 (fun _ => 0) → (∀ F14, F14 = pUp F12 66 9 73 → (∀ E15, E15 = pRow E13 74 (fun _ => 0) → (∀ F16, F16 = pUp F14 66 10 74 → (∀ E17, E17 = pRow E15 75 (fun _ => 0) → (∀ F18, F18 = pUp F16 66 12 75 → (∀ F19, F19 = pUp F18 66 18 (-1) → (∀ E20, E20 = pRow E17 76 (fun _ => 0) → (∀ F21, F21 = pUp F19 66 22 76 → (∀ E22, E22 = pRow E20 77 (fun _ => 0) → (∀ F23, F23 = pUp F21 66 24 77 → (∀ E24, E24 = pRow E22 78 (fun _ => 0) → (∀ F25, F25 = pUp F23 66 25 78 → (∀ E26, E26 = pRow E24 79 (fun _ => 0) → (∀ F27, F27 = pUp F25 66 27 79 → (∀ E28, E28 = pRow E26 80 (fun _ => 0) → (∀ F29, F29 = pUp F27 66 28 80 → (∀ E30, E30 = pRow E28 81 (fun _ => 0) → (∀ E31, E31 = pUp E30 81 0 496 → (∀ E32, E32 = pUp E31 81 1 624248366574 → (∀ E33, E33 = pUp E32 81 2 1 → (∀ E34, E34 = pUp E33 81 3 2 → (∀ E35, E35 = pUp E34 81 4 632645 → (∀ E36, E36 = pUp E35 81 5 21780338323 → (∀ E37, E37 = pUp E36 81 6 13683059 → (∀ E38, E38 = pUp E37 81 7 20579760 → (∀ E39, E39 = pUp E38 81 8 441828 → (∀ F40, F40 = pUp F29 66 31 81 → (∀ E41, E41 = pRow E39 82 (fun _ => 0) → (∀ E42, E42 = pUp E41 82 0 20579760 → (∀ E43, E43 = pUp E42 82 1 146885 → (∀ E44, E44 = pUp E43 82 2 404362868 → (∀ E45, E45 = pUp E44 82 3 19515749011 → (∀ E46, E46 = pUp E45 82 4 17048404639315 → (∀ E47, E47 = pUp E46 82 5 267652 → (∀ E48, E48 = pUp E47 82 6 21780338323 → (∀ F49, F49 = pUp F40 66 32 82 → (∀ E50, E50 = pRow E48 83 (fun _ => 0) → (∀ E51, E51 = pUp E50 83 0 3657363 → (∀ E52, E52 = pUp E51 83 1 67155 → (∀ F53, F53 = pUp F49 66 33 83 → (∀ E54, E54 = pRow E52 84 (fun _ => 0) → (∀ F55, F55 = pUp F53 66 35 84 → (∀ E56, E56 = pRow E54 85 (fun _ => 0) → (∀ F57, F57 = pUp F55 66 36 85 → (∀ E58, E58 = pRow E56 86 (fun _ => 0) → (∀ F59, F59 = pUp F57 66 37 86 → (∀ E60, E60 = pRow E58 87 (fun _ => 0) → (∀ F61, F61 = pUp F59 66 41 87 → (∀ E62, E62 = pRow E60 88 (fun _ => 0) → (∀ F63, F63 = pUp F61 66 42 88 → (∀ E64, E64 = pRow E62 89 (fun _ => 0) → (∀ F65, F65 = pUp F63 66 43 89 → (∀ E66, E66 = pRow E64 90 (fun _ => 0) → (∀ F67, F67 = pUp F65 66 44 90 → (∀ E68, E68 = pRow E66 91 (fun _ => 0) → (∀ F69, F69 = pUp F67 66 45 91 → (∀ E70, E70 = pRow E68 92 (fun _ => 0) → (∀ F71, F71 = pUp F69 66 46 92 → (∀ E72, E72 = pRow E70 93 (fun _ => 0) → (∀ F73, F73 = pUp F71 66 48 93 → (∀ E74, E74 = pRow E72 94 (fun _ => 0) → (∀ F75, F75 = pUp F73 66 54 94 → (∀ E76, E76 = pRow E74 95 (fun _ => 0) → (∀ F77, F77 = pUp F75 66 55 95 → (∀ E78, E78 = pRow E76 96 (fun _ => 0) → (∀ F79, F79 = pUp F77 66 57 96 → (∀ E80, E80 = pRow E78 97 (fun _ => 0) → (∀ F81, F81 = pUp F79 66 58 97 → (∀ E82, E82 = pRow E80 98 (fun _ => 0) → (∀ F83, F83 = pUp F81 66 60 98 → (∀ E84, E84 = pRow E82 99 (fun _ => 0) → (∀ F85, F85 = pUp F83 66 63 99 → (∀ E86, E86 = pRow E84 100 (fun _ => 0) → (∀ F87, F87 = pUp F85 66 64 100 → (∀ E88, E88 = pRow E86 101 (fun _ => 0) → (∀ F89, F89 = pUp F87 66 65 101 → (∀ E90, E90 = pRow E88 102 (fun _ => 0) → (∀ E91, E91 = pUp E90 102 0 114085 → (∀ E92, E92 = pUp E91 102 1 659105125 → (∀ E93, E93 = pUp E92 102 2 781652471 → (∀ E94, E94 = pUp E93 102 3 9900216 → (∀ F95, F95 = pUp F89 66 66 102 → (∀ E96, E96 = pRow E94 103 (fun _ => 0) → (∀ F97, F97 = pUp F95 66 67 103 → (∀ F98, F98 = pUp F97 66 70 (-1) → (∀ E99, E99 = pRow E96 104 (fun _ => 0) → (∀ F100, F100 = pUp F98 66 73 104 → (∀ F101, F101 = pUp F100 66 74 (-1) → (∀ E102, E102 = pUp E99 68 2 (-1) → (∀ E103, E103 = pUp E102 68 3 999 → (∀ E104, E104 = pUp E103 68 4 1 → (∀ E105, E105 = pUp E104 68 9 4 → (∀ E106, E106 = pUp E105 68 12 2 → (∀ E107, E107 = pUp E106 68 10 4 → (∀ E108, E108 = pUp E107 68 13 2 → (∀ E109, E109 = pUp E108 68 11 4 → (∀ E110, E110 = pUp E109 68 14 2 → Q none (105, pKt K 105, F101, E110)))))))))))))))))))))))))))))))))))))))))))))))))))))))))))))))))))))))))))))))))))))))))))))))))))))))))))))))) : PW l G 0 mX12_init (38, 24277) 0 [(0, (2, 66))] [] (67, pKt K 67, F, E) Q := by
  refine s_aload_n (q := 1) 0 0 rfl rfl ?_
  refine s_obj (q := 4) 1 rfl kX12_1 (by decide) ?_
  refine s_aload_n (q := 5) 2 0 rfl rfl ?_
  refine s_bipush (q := 7) 3 rfl ?_
  refine n_newa (q := 9) (a := 67) (n' := 68) (z := 7) 4 0 37 24270 rfl (by decide) kar_int (by decide) (by decide) ?_
  refine PW.nameE (fun E1 eE1 => ?_)
  replace h := h E1 eE1
  refine n_putf (q := 12) (jj := 2) 5 12 2 rfl kX12_7 (by rfl) (Or.inr (Or.inr (Or.inr (Or.inr ⟨_, rfl⟩)))) ?_
  refine PW.nameF (fun F2 eF2 => ?_)
  replace h := h F2 eF2
  refine s_aload_n (q := 13) 6 0 rfl rfl ?_
  refine s_sipush (q := 16) 7 rfl ?_
  refine n_newa (q := 18) (a := 68) (n' := 69) (z := 5535) 8 0 36 18735 rfl (by decide) kar_int (by decide) (by decide) ?_
  refine PW.nameE (fun E3 eE3 => ?_)
  replace h := h E3 eE3
  refine n_putf (q := 21) (jj := 3) 9 12 3 rfl kX12_13 (by rfl) (Or.inr (Or.inr (Or.inr (Or.inr ⟨_, rfl⟩)))) ?_
  refine PW.nameF (fun F4 eF4 => ?_)
  replace h := h F4 eF4
  refine s_aload_n (q := 22) 10 0 rfl rfl ?_
  refine s_sipush (q := 25) 11 rfl ?_
  refine n_newa (q := 27) (a := 69) (n' := 70) (z := 11070) 12 0 35 7665 rfl (by decide) kar_int (by decide) (by decide) ?_
  refine PW.nameE (fun E5 eE5 => ?_)
  replace h := h E5 eE5
  refine n_putf (q := 30) (jj := 4) 13 12 4 rfl kX12_16 (by rfl) (Or.inr (Or.inr (Or.inr (Or.inr ⟨_, rfl⟩)))) ?_
  refine PW.nameF (fun F6 eF6 => ?_)
  replace h := h F6 eF6
  refine s_aload_n (q := 31) 14 0 rfl rfl ?_
  refine s_iconst (q := 32) 15 rfl ?_
  refine n_newa (q := 34) (a := 70) (n' := 71) (z := 2) 16 3 34 7663 rfl (by decide) kar_boolean (by decide) (by decide) ?_
  refine PW.nameE (fun E7 eE7 => ?_)
  replace h := h E7 eE7
  refine n_putf (q := 37) (jj := 5) 17 12 5 rfl kX12_19 (by rfl) (Or.inr (Or.inr (Or.inr (Or.inr ⟨_, rfl⟩)))) ?_
  refine PW.nameF (fun F8 eF8 => ?_)
  replace h := h F8 eF8
  refine s_aload_n (q := 38) 18 0 rfl rfl ?_
  refine s_sipush (q := 41) 19 rfl ?_
  refine n_newa (q := 43) (a := 71) (n' := 72) (z := 2223) 20 0 33 5440 rfl (by decide) kar_int (by decide) (by decide) ?_
  refine PW.nameE (fun E9 eE9 => ?_)
  replace h := h E9 eE9
  refine n_putf (q := 46) (jj := 6) 21 12 6 rfl kX12_23 (by rfl) (Or.inr (Or.inr (Or.inr (Or.inr ⟨_, rfl⟩)))) ?_
  refine PW.nameF (fun F10 eF10 => ?_)
  replace h := h F10 eF10
  refine s_aload_n (q := 47) 22 0 rfl rfl ?_
  refine s_bipush (q := 49) 23 rfl ?_
  refine n_newa (q := 51) (a := 72) (n' := 73) (z := 16) 24 0 32 5424 rfl (by decide) kar_int (by decide) (by decide) ?_
  refine PW.nameE (fun E11 eE11 => ?_)
  replace h := h E11 eE11
  refine n_putf (q := 54) (jj := 7) 25 12 7 rfl kX12_26 (by rfl) (Or.inr (Or.inr (Or.inr (Or.inr ⟨_, rfl⟩)))) ?_
  refine PW.nameF (fun F12 eF12 => ?_)
  replace h := h F12 eF12
  refine s_aload_n (q := 55) 26 0 rfl rfl ?_
  refine s_sipush (q := 58) 27 rfl ?_
  refine n_newa (q := 60) (a := 73) (n' := 74) (z := 1872) 28 0 31 3552 rfl (by decide) kar_int (by decide) (by decide) ?_
  refine PW.nameE (fun E13 eE13 => ?_)
  replace h := h E13 eE13
  refine n_putf (q := 63) (jj := 9) 29 12 9 rfl kX12_29 (by rfl) (Or.inr (Or.inr (Or.inr (Or.inr ⟨_, rfl⟩)))) ?_
  refine PW.nameF (fun F14 eF14 => ?_)
  replace h := h F14 eF14
  refine s_aload_n (q := 64) 30 0 rfl rfl ?_
  refine s_bipush (q := 66) 31 rfl ?_
  refine n_newa (q := 68) (a := 74) (n' := 75) (z := 16) 32 0 30 3536 rfl (by decide) kar_int (by decide) (by decide) ?_
  refine PW.nameE (fun E15 eE15 => ?_)
  replace h := h E15 eE15
  refine n_putf (q := 71) (jj := 10) 33 12 10 rfl kX12_32 (by rfl) (Or.inr (Or.inr (Or.inr (Or.inr ⟨_, rfl⟩)))) ?_
  refine PW.nameF (fun F16 eF16 => ?_)
  replace h := h F16 eF16
  refine s_aload_n (q := 72) 34 0 rfl rfl ?_
  refine s_sipush (q := 75) 35 rfl ?_
  refine n_newa (q := 77) (a := 75) (n' := 76) (z := 400) 36 0 29 3136 rfl (by decide) kar_int (by decide) (by decide) ?_
  refine PW.nameE (fun E17 eE17 => ?_)
  replace h := h E17 eE17
  refine n_putf (q := 80) (jj := 12) 37 12 12 rfl kX12_35 (by rfl) (Or.inr (Or.inr (Or.inr (Or.inr ⟨_, rfl⟩)))) ?_
  refine PW.nameF (fun F18 eF18 => ?_)
  replace h := h F18 eF18
  refine s_aload_n (q := 81) 38 0 rfl rfl ?_
  refine s_iconst (q := 82) 39 rfl ?_
  refine n_putf (q := 85) (jj := 18) 40 12 18 rfl kX12_38 (by rfl) (Or.inl rfl) ?_
  refine PW.nameF (fun F19 eF19 => ?_)
  replace h := h F19 eF19
  refine s_aload_n (q := 86) 41 0 rfl rfl ?_
  refine s_bipush (q := 88) 42 rfl ?_
  refine n_newa (q := 90) (a := 76) (n' := 77) (z := 96) 43 0 28 3040 rfl (by decide) kar_int (by decide) (by decide) ?_
  refine PW.nameE (fun E20 eE20 => ?_)
  replace h := h E20 eE20
  refine n_putf (q := 93) (jj := 22) 44 12 22 rfl kX12_42 (by rfl) (Or.inr (Or.inr (Or.inr (Or.inr ⟨_, rfl⟩)))) ?_
  refine PW.nameF (fun F21 eF21 => ?_)
  replace h := h F21 eF21
  refine s_aload_n (q := 94) 45 0 rfl rfl ?_
  refine s_sipush (q := 97) 46 rfl ?_
  refine n_newa (q := 99) (a := 77) (n' := 78) (z := 400) 47 0 27 2640 rfl (by decide) kar_int (by decide) (by decide) ?_
  refine PW.nameE (fun E22 eE22 => ?_)
  replace h := h E22 eE22
  refine n_putf (q := 102) (jj := 24) 48 12 24 rfl kX12_45 (by rfl) (Or.inr (Or.inr (Or.inr (Or.inr ⟨_, rfl⟩)))) ?_
  refine PW.nameF (fun F23 eF23 => ?_)
  replace h := h F23 eF23
  refine s_aload_n (q := 103) 49 0 rfl rfl ?_
  refine s_sipush (q := 106) 50 rfl ?_
  refine n_newa (q := 108) (a := 78) (n' := 79) (z := 400) 51 0 26 2240 rfl (by decide) kar_int (by decide) (by decide) ?_
  refine PW.nameE (fun E24 eE24 => ?_)
  replace h := h E24 eE24
  refine n_putf (q := 111) (jj := 25) 52 12 25 rfl kX12_48 (by rfl) (Or.inr (Or.inr (Or.inr (Or.inr ⟨_, rfl⟩)))) ?_
  refine PW.nameF (fun F25 eF25 => ?_)
  replace h := h F25 eF25
  refine s_aload_n (q := 112) 53 0 rfl rfl ?_
  refine s_sipush (q := 115) 54 rfl ?_
  refine n_newa (q := 117) (a := 79) (n' := 80) (z := 400) 55 0 25 1840 rfl (by decide) kar_int (by decide) (by decide) ?_
  refine PW.nameE (fun E26 eE26 => ?_)
  replace h := h E26 eE26
  refine n_putf (q := 120) (jj := 27) 56 12 27 rfl kX12_51 (by rfl) (Or.inr (Or.inr (Or.inr (Or.inr ⟨_, rfl⟩)))) ?_
  refine PW.nameF (fun F27 eF27 => ?_)
  replace h := h F27 eF27
  refine s_aload_n (q := 121) 57 0 rfl rfl ?_
  refine s_sipush (q := 124) 58 rfl ?_
  refine n_newa (q := 126) (a := 80) (n' := 81) (z := 400) 59 0 24 1440 rfl (by decide) kar_int (by decide) (by decide) ?_
  refine PW.nameE (fun E28 eE28 => ?_)
  replace h := h E28 eE28
  refine n_putf (q := 129) (jj := 28) 60 12 28 rfl kX12_54 (by rfl) (Or.inr (Or.inr (Or.inr (Or.inr ⟨_, rfl⟩)))) ?_
  refine PW.nameF (fun F29 eF29 => ?_)
  replace h := h F29 eF29
  refine s_aload_n (q := 130) 61 0 rfl rfl ?_
  refine s_bipush (q := 132) 62 rfl ?_
  refine n_newa (q := 134) (a := 81) (n' := 82) (z := 9) 63 1 23 1431 rfl (by decide) kar_long (by decide) (by decide) ?_
  refine PW.nameE (fun E30 eE30 => ?_)
  replace h := h E30 eE30
  refine s_dup (q := 135) 64 rfl ?_
  refine s_iconst (q := 136) 65 rfl ?_
  refine s_ldc2 (q := 139) (x := 496) 66 rfl kX12_57 ?_
  refine n_last (q := 140) 67 rfl (by decide) (by rfl) ⟨by decide, (show 0 < ((9 : Nat) : Int) by decide)⟩ ?_
  refine PW.nameE (fun E31 eE31 => ?_)
  replace h := h E31 eE31
  refine s_dup (q := 141) 68 rfl ?_
  refine s_iconst (q := 142) 69 rfl ?_
  refine s_ldc2 (q := 145) (x := 624248366574) 70 rfl kX12_59 ?_
  refine n_last (q := 146) 71 rfl (by decide) (by rfl) ⟨by decide, (show 1 < ((9 : Nat) : Int) by decide)⟩ ?_
  refine PW.nameE (fun E32 eE32 => ?_)
  replace h := h E32 eE32
  refine s_dup (q := 147) 72 rfl ?_
  refine s_iconst (q := 148) 73 rfl ?_
  refine s_lconst (q := 149) (x := 1) 74 rfl ?_
  refine n_last (q := 150) 75 rfl (by decide) (by rfl) ⟨by decide, (show 2 < ((9 : Nat) : Int) by decide)⟩ ?_
  refine PW.nameE (fun E33 eE33 => ?_)
  replace h := h E33 eE33
  refine s_dup (q := 151) 76 rfl ?_
  refine s_iconst (q := 152) 77 rfl ?_
  refine s_ldc2 (q := 155) (x := 2) 78 rfl kX12_61 ?_
  refine n_last (q := 156) 79 rfl (by decide) (by rfl) ⟨by decide, (show 3 < ((9 : Nat) : Int) by decide)⟩ ?_
  refine PW.nameE (fun E34 eE34 => ?_)
  replace h := h E34 eE34
  refine s_dup (q := 157) 80 rfl ?_
  refine s_iconst (q := 158) 81 rfl ?_
  refine s_ldc2 (q := 161) (x := 632645) 82 rfl kX12_63 ?_
  refine n_last (q := 162) 83 rfl (by decide) (by rfl) ⟨by decide, (show 4 < ((9 : Nat) : Int) by decide)⟩ ?_
  refine PW.nameE (fun E35 eE35 => ?_)
  replace h := h E35 eE35
  refine s_dup (q := 163) 84 rfl ?_
  refine s_iconst (q := 164) 85 rfl ?_
  refine s_ldc2 (q := 167) (x := 21780338323) 86 rfl kX12_65 ?_
  refine n_last (q := 168) 87 rfl (by decide) (by rfl) ⟨by decide, (show 5 < ((9 : Nat) : Int) by decide)⟩ ?_
  refine PW.nameE (fun E36 eE36 => ?_)
  replace h := h E36 eE36
  refine s_dup (q := 169) 88 rfl ?_
  refine s_bipush (q := 171) 89 rfl ?_
  refine s_ldc2 (q := 174) (x := 13683059) 90 rfl kX12_67 ?_
  refine n_last (q := 175) 91 rfl (by decide) (by rfl) ⟨by decide, (show 6 < ((9 : Nat) : Int) by decide)⟩ ?_
  refine PW.nameE (fun E37 eE37 => ?_)
  replace h := h E37 eE37
  refine s_dup (q := 176) 92 rfl ?_
  refine s_bipush (q := 178) 93 rfl ?_
  refine s_ldc2 (q := 181) (x := 20579760) 94 rfl kX12_69 ?_
  refine n_last (q := 182) 95 rfl (by decide) (by rfl) ⟨by decide, (show 7 < ((9 : Nat) : Int) by decide)⟩ ?_
  refine PW.nameE (fun E38 eE38 => ?_)
  replace h := h E38 eE38
  refine s_dup (q := 183) 96 rfl ?_
  refine s_bipush (q := 185) 97 rfl ?_
  refine s_ldc2 (q := 188) (x := 441828) 98 rfl kX12_71 ?_
  refine n_last (q := 189) 99 rfl (by decide) (by rfl) ⟨by decide, (show 8 < ((9 : Nat) : Int) by decide)⟩ ?_
  refine PW.nameE (fun E39 eE39 => ?_)
  replace h := h E39 eE39
  refine n_putf (q := 192) (jj := 31) 100 12 31 rfl kX12_73 (by rfl) (Or.inr (Or.inr (Or.inr (Or.inr ⟨_, rfl⟩)))) ?_
  refine PW.nameF (fun F40 eF40 => ?_)
  replace h := h F40 eF40
  refine s_aload_n (q := 193) 101 0 rfl rfl ?_
  refine s_bipush (q := 195) 102 rfl ?_
  refine n_newa (q := 197) (a := 82) (n' := 83) (z := 7) 103 1 22 1424 rfl (by decide) kar_long (by decide) (by decide) ?_
  refine PW.nameE (fun E41 eE41 => ?_)
  replace h := h E41 eE41
  refine s_dup (q := 198) 104 rfl ?_
  refine s_iconst (q := 199) 105 rfl ?_
  refine s_ldc2 (q := 202) (x := 20579760) 106 rfl kX12_69 ?_
  refine n_last (q := 203) 107 rfl (by decide) (by rfl) ⟨by decide, (show 0 < ((7 : Nat) : Int) by decide)⟩ ?_
  refine PW.nameE (fun E42 eE42 => ?_)
  replace h := h E42 eE42
  refine s_dup (q := 204) 108 rfl ?_
  refine s_iconst (q := 205) 109 rfl ?_
  refine s_ldc2 (q := 208) (x := 146885) 110 rfl kX12_77 ?_
  refine n_last (q := 209) 111 rfl (by decide) (by rfl) ⟨by decide, (show 1 < ((7 : Nat) : Int) by decide)⟩ ?_
  refine PW.nameE (fun E43 eE43 => ?_)
  replace h := h E43 eE43
  refine s_dup (q := 210) 112 rfl ?_
  refine s_iconst (q := 211) 113 rfl ?_
  refine s_ldc2 (q := 214) (x := 404362868) 114 rfl kX12_79 ?_
  refine n_last (q := 215) 115 rfl (by decide) (by rfl) ⟨by decide, (show 2 < ((7 : Nat) : Int) by decide)⟩ ?_
  refine PW.nameE (fun E44 eE44 => ?_)
  replace h := h E44 eE44
  refine s_dup (q := 216) 116 rfl ?_
  refine s_iconst (q := 217) 117 rfl ?_
  refine s_ldc2 (q := 220) (x := 19515749011) 118 rfl kX12_81 ?_
  refine n_last (q := 221) 119 rfl (by decide) (by rfl) ⟨by decide, (show 3 < ((7 : Nat) : Int) by decide)⟩ ?_
  refine PW.nameE (fun E45 eE45 => ?_)
  replace h := h E45 eE45
  refine s_dup (q := 222) 120 rfl ?_
  refine s_iconst (q := 223) 121 rfl ?_
  refine s_ldc2 (q := 226) (x := 17048404639315) 122 rfl kX12_83 ?_
  refine n_last (q := 227) 123 rfl (by decide) (by rfl) ⟨by decide, (show 4 < ((7 : Nat) : Int) by decide)⟩ ?_
  refine PW.nameE (fun E46 eE46 => ?_)
  replace h := h E46 eE46
  refine s_dup (q := 228) 124 rfl ?_
  refine s_iconst (q := 229) 125 rfl ?_
  refine s_ldc2 (q := 232) (x := 267652) 126 rfl kX12_85 ?_
  refine n_last (q := 233) 127 rfl (by decide) (by rfl) ⟨by decide, (show 5 < ((7 : Nat) : Int) by decide)⟩ ?_
  refine PW.nameE (fun E47 eE47 => ?_)
  replace h := h E47 eE47
  refine s_dup (q := 234) 128 rfl ?_
  refine s_bipush (q := 236) 129 rfl ?_
  refine s_ldc2 (q := 239) (x := 21780338323) 130 rfl kX12_65 ?_
  refine n_last (q := 240) 131 rfl (by decide) (by rfl) ⟨by decide, (show 6 < ((7 : Nat) : Int) by decide)⟩ ?_
  refine PW.nameE (fun E48 eE48 => ?_)
  replace h := h E48 eE48
  refine n_putf (q := 243) (jj := 32) 132 12 32 rfl kX12_87 (by rfl) (Or.inr (Or.inr (Or.inr (Or.inr ⟨_, rfl⟩)))) ?_
  refine PW.nameF (fun F49 eF49 => ?_)
  replace h := h F49 eF49
  refine s_aload_n (q := 244) 133 0 rfl rfl ?_
  refine s_iconst (q := 245) 134 rfl ?_
  refine n_newa (q := 247) (a := 83) (n' := 84) (z := 2) 135 1 21 1422 rfl (by decide) kar_long (by decide) (by decide) ?_
  refine PW.nameE (fun E50 eE50 => ?_)
  replace h := h E50 eE50
  refine s_dup (q := 248) 136 rfl ?_
  refine s_iconst (q := 249) 137 rfl ?_
  refine s_ldc2 (q := 252) (x := 3657363) 138 rfl kX12_90 ?_
  refine n_last (q := 253) 139 rfl (by decide) (by rfl) ⟨by decide, (show 0 < ((2 : Nat) : Int) by decide)⟩ ?_
  refine PW.nameE (fun E51 eE51 => ?_)
  replace h := h E51 eE51
  refine s_dup (q := 254) 140 rfl ?_
  refine s_iconst (q := 255) 141 rfl ?_
  refine s_ldc2 (q := 258) (x := 67155) 142 rfl kX12_92 ?_
  refine n_last (q := 259) 143 rfl (by decide) (by rfl) ⟨by decide, (show 1 < ((2 : Nat) : Int) by decide)⟩ ?_
  refine PW.nameE (fun E52 eE52 => ?_)
  replace h := h E52 eE52
  refine n_putf (q := 262) (jj := 33) 144 12 33 rfl kX12_94 (by rfl) (Or.inr (Or.inr (Or.inr (Or.inr ⟨_, rfl⟩)))) ?_
  refine PW.nameF (fun F53 eF53 => ?_)
  replace h := h F53 eF53
  refine s_aload_n (q := 263) 145 0 rfl rfl ?_
  refine s_bipush (q := 265) 146 rfl ?_
  refine n_newa (q := 267) (a := 84) (n' := 85) (z := 13) 147 1 20 1409 rfl (by decide) kar_long (by decide) (by decide) ?_
  refine PW.nameE (fun E54 eE54 => ?_)
  replace h := h E54 eE54
  refine n_putf (q := 270) (jj := 35) 148 12 35 rfl kX12_97 (by rfl) (Or.inr (Or.inr (Or.inr (Or.inr ⟨_, rfl⟩)))) ?_
  refine PW.nameF (fun F55 eF55 => ?_)
  replace h := h F55 eF55
  refine s_aload_n (q := 271) 149 0 rfl rfl ?_
  refine s_bipush (q := 273) 150 rfl ?_
  refine n_newa (q := 275) (a := 85) (n' := 86) (z := 13) 151 1 19 1396 rfl (by decide) kar_long (by decide) (by decide) ?_
  refine PW.nameE (fun E56 eE56 => ?_)
  replace h := h E56 eE56
  refine n_putf (q := 278) (jj := 36) 152 12 36 rfl kX12_100 (by rfl) (Or.inr (Or.inr (Or.inr (Or.inr ⟨_, rfl⟩)))) ?_
  refine PW.nameF (fun F57 eF57 => ?_)
  replace h := h F57 eF57
  refine s_aload_n (q := 279) 153 0 rfl rfl ?_
  refine s_sipush (q := 282) 154 rfl ?_
  refine n_newa (q := 284) (a := 86) (n' := 87) (z := 400) 155 1 18 996 rfl (by decide) kar_long (by decide) (by decide) ?_
  refine PW.nameE (fun E58 eE58 => ?_)
  replace h := h E58 eE58
  refine n_putf (q := 287) (jj := 37) 156 12 37 rfl kX12_103 (by rfl) (Or.inr (Or.inr (Or.inr (Or.inr ⟨_, rfl⟩)))) ?_
  refine PW.nameF (fun F59 eF59 => ?_)
  replace h := h F59 eF59
  refine s_aload_n (q := 288) 157 0 rfl rfl ?_
  refine s_bipush (q := 290) 158 rfl ?_
  refine n_newa (q := 292) (a := 87) (n' := 88) (z := 12) 159 0 17 984 rfl (by decide) kar_int (by decide) (by decide) ?_
  refine PW.nameE (fun E60 eE60 => ?_)
  replace h := h E60 eE60
  refine n_putf (q := 295) (jj := 41) 160 12 41 rfl kX12_106 (by rfl) (Or.inr (Or.inr (Or.inr (Or.inr ⟨_, rfl⟩)))) ?_
  refine PW.nameF (fun F61 eF61 => ?_)
  replace h := h F61 eF61
  refine s_aload_n (q := 296) 161 0 rfl rfl ?_
  refine s_iconst (q := 297) 162 rfl ?_
  refine n_newa (q := 299) (a := 88) (n' := 89) (z := 4) 163 0 16 980 rfl (by decide) kar_int (by decide) (by decide) ?_
  refine PW.nameE (fun E62 eE62 => ?_)
  replace h := h E62 eE62
  refine n_putf (q := 302) (jj := 42) 164 12 42 rfl kX12_109 (by rfl) (Or.inr (Or.inr (Or.inr (Or.inr ⟨_, rfl⟩)))) ?_
  refine PW.nameF (fun F63 eF63 => ?_)
  replace h := h F63 eF63
  refine s_aload_n (q := 303) 165 0 rfl rfl ?_
  refine s_iconst (q := 304) 166 rfl ?_
  refine n_newa (q := 306) (a := 89) (n' := 90) (z := 4) 167 0 15 976 rfl (by decide) kar_int (by decide) (by decide) ?_
  refine PW.nameE (fun E64 eE64 => ?_)
  replace h := h E64 eE64
  refine n_putf (q := 309) (jj := 43) 168 12 43 rfl kX12_112 (by rfl) (Or.inr (Or.inr (Or.inr (Or.inr ⟨_, rfl⟩)))) ?_
  refine PW.nameF (fun F65 eF65 => ?_)
  replace h := h F65 eF65
  refine s_aload_n (q := 310) 169 0 rfl rfl ?_
  refine s_iconst (q := 311) 170 rfl ?_
  refine n_newa (q := 313) (a := 90) (n' := 91) (z := 4) 171 0 14 972 rfl (by decide) kar_int (by decide) (by decide) ?_
  refine PW.nameE (fun E66 eE66 => ?_)
  replace h := h E66 eE66
  refine n_putf (q := 316) (jj := 44) 172 12 44 rfl kX12_115 (by rfl) (Or.inr (Or.inr (Or.inr (Or.inr ⟨_, rfl⟩)))) ?_
  refine PW.nameF (fun F67 eF67 => ?_)
  replace h := h F67 eF67
  refine s_aload_n (q := 317) 173 0 rfl rfl ?_
  refine s_iconst (q := 318) 174 rfl ?_
  refine n_newa (q := 320) (a := 91) (n' := 92) (z := 4) 175 0 13 968 rfl (by decide) kar_int (by decide) (by decide) ?_
  refine PW.nameE (fun E68 eE68 => ?_)
  replace h := h E68 eE68
  refine n_putf (q := 323) (jj := 45) 176 12 45 rfl kX12_118 (by rfl) (Or.inr (Or.inr (Or.inr (Or.inr ⟨_, rfl⟩)))) ?_
  refine PW.nameF (fun F69 eF69 => ?_)
  replace h := h F69 eF69
  refine s_aload_n (q := 324) 177 0 rfl rfl ?_
  refine s_iconst (q := 325) 178 rfl ?_
  refine n_newa (q := 327) (a := 92) (n' := 93) (z := 4) 179 0 12 964 rfl (by decide) kar_int (by decide) (by decide) ?_
  refine PW.nameE (fun E70 eE70 => ?_)
  replace h := h E70 eE70
  refine n_putf (q := 330) (jj := 46) 180 12 46 rfl kX12_121 (by rfl) (Or.inr (Or.inr (Or.inr (Or.inr ⟨_, rfl⟩)))) ?_
  refine PW.nameF (fun F71 eF71 => ?_)
  replace h := h F71 eF71
  refine s_aload_n (q := 331) 181 0 rfl rfl ?_
  refine s_iconst (q := 332) 182 rfl ?_
  refine n_newa (q := 334) (a := 93) (n' := 94) (z := 2) 183 0 11 962 rfl (by decide) kar_int (by decide) (by decide) ?_
  refine PW.nameE (fun E72 eE72 => ?_)
  replace h := h E72 eE72
  refine n_putf (q := 337) (jj := 48) 184 12 48 rfl kX12_124 (by rfl) (Or.inr (Or.inr (Or.inr (Or.inr ⟨_, rfl⟩)))) ?_
  refine PW.nameF (fun F73 eF73 => ?_)
  replace h := h F73 eF73
  refine s_aload_n (q := 338) 185 0 rfl rfl ?_
  refine s_sipush (q := 341) 186 rfl ?_
  refine n_newa (q := 343) (a := 94) (n' := 95) (z := 297) 187 0 10 665 rfl (by decide) kar_int (by decide) (by decide) ?_
  refine PW.nameE (fun E74 eE74 => ?_)
  replace h := h E74 eE74
  refine n_putf (q := 346) (jj := 54) 188 12 54 rfl kX12_127 (by rfl) (Or.inr (Or.inr (Or.inr (Or.inr ⟨_, rfl⟩)))) ?_
  refine PW.nameF (fun F75 eF75 => ?_)
  replace h := h F75 eF75
  refine s_aload_n (q := 347) 189 0 rfl rfl ?_
  refine s_bipush (q := 349) 190 rfl ?_
  refine n_newa (q := 351) (a := 95) (n' := 96) (z := 99) 191 0 9 566 rfl (by decide) kar_int (by decide) (by decide) ?_
  refine PW.nameE (fun E76 eE76 => ?_)
  replace h := h E76 eE76
  refine n_putf (q := 354) (jj := 55) 192 12 55 rfl kX12_130 (by rfl) (Or.inr (Or.inr (Or.inr (Or.inr ⟨_, rfl⟩)))) ?_
  refine PW.nameF (fun F77 eF77 => ?_)
  replace h := h F77 eF77
  refine s_aload_n (q := 355) 193 0 rfl rfl ?_
  refine s_iconst (q := 356) 194 rfl ?_
  refine n_newa (q := 358) (a := 96) (n' := 97) (z := 4) 195 0 8 562 rfl (by decide) kar_int (by decide) (by decide) ?_
  refine PW.nameE (fun E78 eE78 => ?_)
  replace h := h E78 eE78
  refine n_putf (q := 361) (jj := 57) 196 12 57 rfl kX12_133 (by rfl) (Or.inr (Or.inr (Or.inr (Or.inr ⟨_, rfl⟩)))) ?_
  refine PW.nameF (fun F79 eF79 => ?_)
  replace h := h F79 eF79
  refine s_aload_n (q := 362) 197 0 rfl rfl ?_
  refine s_sipush (q := 365) 198 rfl ?_
  refine n_newa (q := 367) (a := 97) (n' := 98) (z := 297) 199 0 7 265 rfl (by decide) kar_int (by decide) (by decide) ?_
  refine PW.nameE (fun E80 eE80 => ?_)
  replace h := h E80 eE80
  refine n_putf (q := 370) (jj := 58) 200 12 58 rfl kX12_136 (by rfl) (Or.inr (Or.inr (Or.inr (Or.inr ⟨_, rfl⟩)))) ?_
  refine PW.nameF (fun F81 eF81 => ?_)
  replace h := h F81 eF81
  refine s_aload_n (q := 371) 201 0 rfl rfl ?_
  refine s_bipush (q := 373) 202 rfl ?_
  refine n_newa (q := 375) (a := 98) (n' := 99) (z := 99) 203 0 6 166 rfl (by decide) kar_int (by decide) (by decide) ?_
  refine PW.nameE (fun E82 eE82 => ?_)
  replace h := h E82 eE82
  refine n_putf (q := 378) (jj := 60) 204 12 60 rfl kX12_139 (by rfl) (Or.inr (Or.inr (Or.inr (Or.inr ⟨_, rfl⟩)))) ?_
  refine PW.nameF (fun F83 eF83 => ?_)
  replace h := h F83 eF83
  refine s_aload_n (q := 379) 205 0 rfl rfl ?_
  refine s_iconst (q := 380) 206 rfl ?_
  refine n_newa (q := 382) (a := 99) (n' := 100) (z := 4) 207 0 5 162 rfl (by decide) kar_int (by decide) (by decide) ?_
  refine PW.nameE (fun E84 eE84 => ?_)
  replace h := h E84 eE84
  refine n_putf (q := 385) (jj := 63) 208 12 63 rfl kX12_142 (by rfl) (Or.inr (Or.inr (Or.inr (Or.inr ⟨_, rfl⟩)))) ?_
  refine PW.nameF (fun F85 eF85 => ?_)
  replace h := h F85 eF85
  refine s_aload_n (q := 386) 209 0 rfl rfl ?_
  refine s_bipush (q := 388) 210 rfl ?_
  refine n_newa (q := 390) (a := 100) (n' := 101) (z := 10) 211 0 4 152 rfl (by decide) kar_int (by decide) (by decide) ?_
  refine PW.nameE (fun E86 eE86 => ?_)
  replace h := h E86 eE86
  refine n_putf (q := 393) (jj := 64) 212 12 64 rfl kX12_145 (by rfl) (Or.inr (Or.inr (Or.inr (Or.inr ⟨_, rfl⟩)))) ?_
  refine PW.nameF (fun F87 eF87 => ?_)
  replace h := h F87 eF87
  refine s_aload_n (q := 394) 213 0 rfl rfl ?_
  refine s_bipush (q := 396) 214 rfl ?_
  refine n_newa (q := 398) (a := 101) (n' := 102) (z := 21) 215 1 3 131 rfl (by decide) kar_long (by decide) (by decide) ?_
  refine PW.nameE (fun E88 eE88 => ?_)
  replace h := h E88 eE88
  refine n_putf (q := 401) (jj := 65) 216 12 65 rfl kX12_148 (by rfl) (Or.inr (Or.inr (Or.inr (Or.inr ⟨_, rfl⟩)))) ?_
  refine PW.nameF (fun F89 eF89 => ?_)
  replace h := h F89 eF89
  refine s_aload_n (q := 402) 217 0 rfl rfl ?_
  refine s_iconst (q := 403) 218 rfl ?_
  refine n_newa (q := 405) (a := 102) (n' := 103) (z := 4) 219 1 2 127 rfl (by decide) kar_long (by decide) (by decide) ?_
  refine PW.nameE (fun E90 eE90 => ?_)
  replace h := h E90 eE90
  refine s_dup (q := 406) 220 rfl ?_
  refine s_iconst (q := 407) 221 rfl ?_
  refine s_ldc2 (q := 410) (x := 114085) 222 rfl kX12_151 ?_
  refine n_last (q := 411) 223 rfl (by decide) (by rfl) ⟨by decide, (show 0 < ((4 : Nat) : Int) by decide)⟩ ?_
  refine PW.nameE (fun E91 eE91 => ?_)
  replace h := h E91 eE91
  refine s_dup (q := 412) 224 rfl ?_
  refine s_iconst (q := 413) 225 rfl ?_
  refine s_ldc2 (q := 416) (x := 659105125) 226 rfl kX12_153 ?_
  refine n_last (q := 417) 227 rfl (by decide) (by rfl) ⟨by decide, (show 1 < ((4 : Nat) : Int) by decide)⟩ ?_
  refine PW.nameE (fun E92 eE92 => ?_)
  replace h := h E92 eE92
  refine s_dup (q := 418) 228 rfl ?_
  refine s_iconst (q := 419) 229 rfl ?_
  refine s_ldc2 (q := 422) (x := 781652471) 230 rfl kX12_155 ?_
  refine n_last (q := 423) 231 rfl (by decide) (by rfl) ⟨by decide, (show 2 < ((4 : Nat) : Int) by decide)⟩ ?_
  refine PW.nameE (fun E93 eE93 => ?_)
  replace h := h E93 eE93
  refine s_dup (q := 424) 232 rfl ?_
  refine s_iconst (q := 425) 233 rfl ?_
  refine s_ldc2 (q := 428) (x := 9900216) 234 rfl kX12_157 ?_
  refine n_last (q := 429) 235 rfl (by decide) (by rfl) ⟨by decide, (show 3 < ((4 : Nat) : Int) by decide)⟩ ?_
  refine PW.nameE (fun E94 eE94 => ?_)
  replace h := h E94 eE94
  refine n_putf (q := 432) (jj := 66) 236 12 66 rfl kX12_159 (by rfl) (Or.inr (Or.inr (Or.inr (Or.inr ⟨_, rfl⟩)))) ?_
  refine PW.nameF (fun F95 eF95 => ?_)
  replace h := h F95 eF95
  refine s_aload_n (q := 433) 237 0 rfl rfl ?_
  refine s_bipush (q := 435) 238 rfl ?_
  refine n_newa (q := 437) (a := 103) (n' := 104) (z := 120) 239 0 1 7 rfl (by decide) kar_int (by decide) (by decide) ?_
  refine PW.nameE (fun E96 eE96 => ?_)
  replace h := h E96 eE96
  refine n_putf (q := 440) (jj := 67) 240 12 67 rfl kX12_162 (by rfl) (Or.inr (Or.inr (Or.inr (Or.inr ⟨_, rfl⟩)))) ?_
  refine PW.nameF (fun F97 eF97 => ?_)
  replace h := h F97 eF97
  refine s_aload_n (q := 441) 241 0 rfl rfl ?_
  refine s_iconst (q := 442) 242 rfl ?_
  refine n_putf (q := 445) (jj := 70) 243 12 70 rfl kX12_165 (by rfl) (Or.inl rfl) ?_
  refine PW.nameF (fun F98 eF98 => ?_)
  replace h := h F98 eF98
  refine s_aload_n (q := 446) 244 0 rfl rfl ?_
  refine s_bipush (q := 448) 245 rfl ?_
  refine n_newa (q := 450) (a := 104) (n' := 105) (z := 7) 246 0 0 0 rfl (by decide) kar_int (by decide) (by decide) ?_
  refine PW.nameE (fun E99 eE99 => ?_)
  replace h := h E99 eE99
  refine n_putf (q := 453) (jj := 73) 247 12 73 rfl kX12_168 (by rfl) (Or.inr (Or.inr (Or.inr (Or.inr ⟨_, rfl⟩)))) ?_
  refine PW.nameF (fun F100 eF100 => ?_)
  replace h := h F100 eF100
  refine s_aload_n (q := 454) 248 0 rfl rfl ?_
  refine s_iconst (q := 455) 249 rfl ?_
  refine n_putf (q := 458) (jj := 74) 250 12 74 rfl kX12_171 (by rfl) (Or.inl rfl) ?_
  refine PW.nameF (fun F101 eF101 => ?_)
  replace h := h F101 eF101
  refine s_aload_n (q := 459) 251 0 rfl rfl ?_
  refine n_getf (q := 462) (jj := 3) 252 12 3 rfl kX12_13 (by rfl) ?_
  refine PW.top (b := 68) (by refine (congrFun (congrFun eF101 _) _).trans ((pUp_k (by decide)).trans ?_); refine (congrFun (congrFun eF100 _) _).trans ((pUp_k (by decide)).trans ?_); refine (congrFun (congrFun eF98 _) _).trans ((pUp_k (by decide)).trans ?_); refine (congrFun (congrFun eF97 _) _).trans ((pUp_k (by decide)).trans ?_); refine (congrFun (congrFun eF95 _) _).trans ((pUp_k (by decide)).trans ?_); refine (congrFun (congrFun eF89 _) _).trans ((pUp_k (by decide)).trans ?_); refine (congrFun (congrFun eF87 _) _).trans ((pUp_k (by decide)).trans ?_); refine (congrFun (congrFun eF85 _) _).trans ((pUp_k (by decide)).trans ?_); refine (congrFun (congrFun eF83 _) _).trans ((pUp_k (by decide)).trans ?_); refine (congrFun (congrFun eF81 _) _).trans ((pUp_k (by decide)).trans ?_); refine (congrFun (congrFun eF79 _) _).trans ((pUp_k (by decide)).trans ?_); refine (congrFun (congrFun eF77 _) _).trans ((pUp_k (by decide)).trans ?_); refine (congrFun (congrFun eF75 _) _).trans ((pUp_k (by decide)).trans ?_); refine (congrFun (congrFun eF73 _) _).trans ((pUp_k (by decide)).trans ?_); refine (congrFun (congrFun eF71 _) _).trans ((pUp_k (by decide)).trans ?_); refine (congrFun (congrFun eF69 _) _).trans ((pUp_k (by decide)).trans ?_); refine (congrFun (congrFun eF67 _) _).trans ((pUp_k (by decide)).trans ?_); refine (congrFun (congrFun eF65 _) _).trans ((pUp_k (by decide)).trans ?_); refine (congrFun (congrFun eF63 _) _).trans ((pUp_k (by decide)).trans ?_); refine (congrFun (congrFun eF61 _) _).trans ((pUp_k (by decide)).trans ?_); refine (congrFun (congrFun eF59 _) _).trans ((pUp_k (by decide)).trans ?_); refine (congrFun (congrFun eF57 _) _).trans ((pUp_k (by decide)).trans ?_); refine (congrFun (congrFun eF55 _) _).trans ((pUp_k (by decide)).trans ?_); refine (congrFun (congrFun eF53 _) _).trans ((pUp_k (by decide)).trans ?_); refine (congrFun (congrFun eF49 _) _).trans ((pUp_k (by decide)).trans ?_); refine (congrFun (congrFun eF40 _) _).trans ((pUp_k (by decide)).trans ?_); refine (congrFun (congrFun eF29 _) _).trans ((pUp_k (by decide)).trans ?_); refine (congrFun (congrFun eF27 _) _).trans ((pUp_k (by decide)).trans ?_); refine (congrFun (congrFun eF25 _) _).trans ((pUp_k (by decide)).trans ?_); refine (congrFun (congrFun eF23 _) _).trans ((pUp_k (by decide)).trans ?_); refine (congrFun (congrFun eF21 _) _).trans ((pUp_k (by decide)).trans ?_); refine (congrFun (congrFun eF19 _) _).trans ((pUp_k (by decide)).trans ?_); refine (congrFun (congrFun eF18 _) _).trans ((pUp_k (by decide)).trans ?_); refine (congrFun (congrFun eF16 _) _).trans ((pUp_k (by decide)).trans ?_); refine (congrFun (congrFun eF14 _) _).trans ((pUp_k (by decide)).trans ?_); refine (congrFun (congrFun eF12 _) _).trans ((pUp_k (by decide)).trans ?_); refine (congrFun (congrFun eF10 _) _).trans ((pUp_k (by decide)).trans ?_); refine (congrFun (congrFun eF8 _) _).trans ((pUp_k (by decide)).trans ?_); refine (congrFun (congrFun eF6 _) _).trans ((pUp_k (by decide)).trans ?_); exact (congrFun (congrFun eF4 _) _).trans pUp_s) ?_
  refine s_iconst (q := 463) 253 rfl ?_
  refine s_iconst (q := 464) 254 rfl ?_
  refine n_iast (q := 465) 255 rfl (by decide) (by rfl) ⟨by decide, (show 2 < ((5535 : Nat) : Int) by decide)⟩ ?_
  refine PW.nameE (fun E102 eE102 => ?_)
  replace h := h E102 eE102
  refine s_aload_n (q := 466) 256 0 rfl rfl ?_
  refine n_getf (q := 469) (jj := 3) 257 12 3 rfl kX12_13 (by rfl) ?_
  refine PW.top (b := 68) (by refine (congrFun (congrFun eF101 _) _).trans ((pUp_k (by decide)).trans ?_); refine (congrFun (congrFun eF100 _) _).trans ((pUp_k (by decide)).trans ?_); refine (congrFun (congrFun eF98 _) _).trans ((pUp_k (by decide)).trans ?_); refine (congrFun (congrFun eF97 _) _).trans ((pUp_k (by decide)).trans ?_); refine (congrFun (congrFun eF95 _) _).trans ((pUp_k (by decide)).trans ?_); refine (congrFun (congrFun eF89 _) _).trans ((pUp_k (by decide)).trans ?_); refine (congrFun (congrFun eF87 _) _).trans ((pUp_k (by decide)).trans ?_); refine (congrFun (congrFun eF85 _) _).trans ((pUp_k (by decide)).trans ?_); refine (congrFun (congrFun eF83 _) _).trans ((pUp_k (by decide)).trans ?_); refine (congrFun (congrFun eF81 _) _).trans ((pUp_k (by decide)).trans ?_); refine (congrFun (congrFun eF79 _) _).trans ((pUp_k (by decide)).trans ?_); refine (congrFun (congrFun eF77 _) _).trans ((pUp_k (by decide)).trans ?_); refine (congrFun (congrFun eF75 _) _).trans ((pUp_k (by decide)).trans ?_); refine (congrFun (congrFun eF73 _) _).trans ((pUp_k (by decide)).trans ?_); refine (congrFun (congrFun eF71 _) _).trans ((pUp_k (by decide)).trans ?_); refine (congrFun (congrFun eF69 _) _).trans ((pUp_k (by decide)).trans ?_); refine (congrFun (congrFun eF67 _) _).trans ((pUp_k (by decide)).trans ?_); refine (congrFun (congrFun eF65 _) _).trans ((pUp_k (by decide)).trans ?_); refine (congrFun (congrFun eF63 _) _).trans ((pUp_k (by decide)).trans ?_); refine (congrFun (congrFun eF61 _) _).trans ((pUp_k (by decide)).trans ?_); refine (congrFun (congrFun eF59 _) _).trans ((pUp_k (by decide)).trans ?_); refine (congrFun (congrFun eF57 _) _).trans ((pUp_k (by decide)).trans ?_); refine (congrFun (congrFun eF55 _) _).trans ((pUp_k (by decide)).trans ?_); refine (congrFun (congrFun eF53 _) _).trans ((pUp_k (by decide)).trans ?_); refine (congrFun (congrFun eF49 _) _).trans ((pUp_k (by decide)).trans ?_); refine (congrFun (congrFun eF40 _) _).trans ((pUp_k (by decide)).trans ?_); refine (congrFun (congrFun eF29 _) _).trans ((pUp_k (by decide)).trans ?_); refine (congrFun (congrFun eF27 _) _).trans ((pUp_k (by decide)).trans ?_); refine (congrFun (congrFun eF25 _) _).trans ((pUp_k (by decide)).trans ?_); refine (congrFun (congrFun eF23 _) _).trans ((pUp_k (by decide)).trans ?_); refine (congrFun (congrFun eF21 _) _).trans ((pUp_k (by decide)).trans ?_); refine (congrFun (congrFun eF19 _) _).trans ((pUp_k (by decide)).trans ?_); refine (congrFun (congrFun eF18 _) _).trans ((pUp_k (by decide)).trans ?_); refine (congrFun (congrFun eF16 _) _).trans ((pUp_k (by decide)).trans ?_); refine (congrFun (congrFun eF14 _) _).trans ((pUp_k (by decide)).trans ?_); refine (congrFun (congrFun eF12 _) _).trans ((pUp_k (by decide)).trans ?_); refine (congrFun (congrFun eF10 _) _).trans ((pUp_k (by decide)).trans ?_); refine (congrFun (congrFun eF8 _) _).trans ((pUp_k (by decide)).trans ?_); refine (congrFun (congrFun eF6 _) _).trans ((pUp_k (by decide)).trans ?_); exact (congrFun (congrFun eF4 _) _).trans pUp_s) ?_
  refine s_iconst (q := 470) 258 rfl ?_
  refine s_sipush (q := 473) 259 rfl ?_
  refine n_iast (q := 474) 260 rfl (by decide) (by rfl) ⟨by decide, (show 3 < ((5535 : Nat) : Int) by decide)⟩ ?_
  refine PW.nameE (fun E103 eE103 => ?_)
  replace h := h E103 eE103
  refine s_aload_n (q := 475) 261 0 rfl rfl ?_
  refine n_getf (q := 478) (jj := 3) 262 12 3 rfl kX12_13 (by rfl) ?_
  refine PW.top (b := 68) (by refine (congrFun (congrFun eF101 _) _).trans ((pUp_k (by decide)).trans ?_); refine (congrFun (congrFun eF100 _) _).trans ((pUp_k (by decide)).trans ?_); refine (congrFun (congrFun eF98 _) _).trans ((pUp_k (by decide)).trans ?_); refine (congrFun (congrFun eF97 _) _).trans ((pUp_k (by decide)).trans ?_); refine (congrFun (congrFun eF95 _) _).trans ((pUp_k (by decide)).trans ?_); refine (congrFun (congrFun eF89 _) _).trans ((pUp_k (by decide)).trans ?_); refine (congrFun (congrFun eF87 _) _).trans ((pUp_k (by decide)).trans ?_); refine (congrFun (congrFun eF85 _) _).trans ((pUp_k (by decide)).trans ?_); refine (congrFun (congrFun eF83 _) _).trans ((pUp_k (by decide)).trans ?_); refine (congrFun (congrFun eF81 _) _).trans ((pUp_k (by decide)).trans ?_); refine (congrFun (congrFun eF79 _) _).trans ((pUp_k (by decide)).trans ?_); refine (congrFun (congrFun eF77 _) _).trans ((pUp_k (by decide)).trans ?_); refine (congrFun (congrFun eF75 _) _).trans ((pUp_k (by decide)).trans ?_); refine (congrFun (congrFun eF73 _) _).trans ((pUp_k (by decide)).trans ?_); refine (congrFun (congrFun eF71 _) _).trans ((pUp_k (by decide)).trans ?_); refine (congrFun (congrFun eF69 _) _).trans ((pUp_k (by decide)).trans ?_); refine (congrFun (congrFun eF67 _) _).trans ((pUp_k (by decide)).trans ?_); refine (congrFun (congrFun eF65 _) _).trans ((pUp_k (by decide)).trans ?_); refine (congrFun (congrFun eF63 _) _).trans ((pUp_k (by decide)).trans ?_); refine (congrFun (congrFun eF61 _) _).trans ((pUp_k (by decide)).trans ?_); refine (congrFun (congrFun eF59 _) _).trans ((pUp_k (by decide)).trans ?_); refine (congrFun (congrFun eF57 _) _).trans ((pUp_k (by decide)).trans ?_); refine (congrFun (congrFun eF55 _) _).trans ((pUp_k (by decide)).trans ?_); refine (congrFun (congrFun eF53 _) _).trans ((pUp_k (by decide)).trans ?_); refine (congrFun (congrFun eF49 _) _).trans ((pUp_k (by decide)).trans ?_); refine (congrFun (congrFun eF40 _) _).trans ((pUp_k (by decide)).trans ?_); refine (congrFun (congrFun eF29 _) _).trans ((pUp_k (by decide)).trans ?_); refine (congrFun (congrFun eF27 _) _).trans ((pUp_k (by decide)).trans ?_); refine (congrFun (congrFun eF25 _) _).trans ((pUp_k (by decide)).trans ?_); refine (congrFun (congrFun eF23 _) _).trans ((pUp_k (by decide)).trans ?_); refine (congrFun (congrFun eF21 _) _).trans ((pUp_k (by decide)).trans ?_); refine (congrFun (congrFun eF19 _) _).trans ((pUp_k (by decide)).trans ?_); refine (congrFun (congrFun eF18 _) _).trans ((pUp_k (by decide)).trans ?_); refine (congrFun (congrFun eF16 _) _).trans ((pUp_k (by decide)).trans ?_); refine (congrFun (congrFun eF14 _) _).trans ((pUp_k (by decide)).trans ?_); refine (congrFun (congrFun eF12 _) _).trans ((pUp_k (by decide)).trans ?_); refine (congrFun (congrFun eF10 _) _).trans ((pUp_k (by decide)).trans ?_); refine (congrFun (congrFun eF8 _) _).trans ((pUp_k (by decide)).trans ?_); refine (congrFun (congrFun eF6 _) _).trans ((pUp_k (by decide)).trans ?_); exact (congrFun (congrFun eF4 _) _).trans pUp_s) ?_
  refine s_iconst (q := 479) 263 rfl ?_
  refine s_iconst (q := 480) 264 rfl ?_
  refine n_iast (q := 481) 265 rfl (by decide) (by rfl) ⟨by decide, (show 4 < ((5535 : Nat) : Int) by decide)⟩ ?_
  refine PW.nameE (fun E104 eE104 => ?_)
  replace h := h E104 eE104
  refine s_iconst (q := 482) 266 rfl ?_
  refine s_istore_n (q := 483) (lv' := [(1, (0, 0)), (0, (2, 66))]) 267 rfl rfl ?_
  refine s_iload_n (q := 484) 268 0 rfl rfl ?_
  refine s_iconst (q := 485) 269 rfl ?_
  refine s_icmp_ge (q := 488) (tgt := 514) 270 rfl rfl (fun hb => absurd hb (by decide)) (fun _ => ?_)
  refine s_aload_n (q := 489) 271 1 rfl rfl ?_
  refine n_getf (q := 492) (jj := 3) 272 12 3 rfl kX12_13 (by rfl) ?_
  refine PW.top (b := 68) (by refine (congrFun (congrFun eF101 _) _).trans ((pUp_k (by decide)).trans ?_); refine (congrFun (congrFun eF100 _) _).trans ((pUp_k (by decide)).trans ?_); refine (congrFun (congrFun eF98 _) _).trans ((pUp_k (by decide)).trans ?_); refine (congrFun (congrFun eF97 _) _).trans ((pUp_k (by decide)).trans ?_); refine (congrFun (congrFun eF95 _) _).trans ((pUp_k (by decide)).trans ?_); refine (congrFun (congrFun eF89 _) _).trans ((pUp_k (by decide)).trans ?_); refine (congrFun (congrFun eF87 _) _).trans ((pUp_k (by decide)).trans ?_); refine (congrFun (congrFun eF85 _) _).trans ((pUp_k (by decide)).trans ?_); refine (congrFun (congrFun eF83 _) _).trans ((pUp_k (by decide)).trans ?_); refine (congrFun (congrFun eF81 _) _).trans ((pUp_k (by decide)).trans ?_); refine (congrFun (congrFun eF79 _) _).trans ((pUp_k (by decide)).trans ?_); refine (congrFun (congrFun eF77 _) _).trans ((pUp_k (by decide)).trans ?_); refine (congrFun (congrFun eF75 _) _).trans ((pUp_k (by decide)).trans ?_); refine (congrFun (congrFun eF73 _) _).trans ((pUp_k (by decide)).trans ?_); refine (congrFun (congrFun eF71 _) _).trans ((pUp_k (by decide)).trans ?_); refine (congrFun (congrFun eF69 _) _).trans ((pUp_k (by decide)).trans ?_); refine (congrFun (congrFun eF67 _) _).trans ((pUp_k (by decide)).trans ?_); refine (congrFun (congrFun eF65 _) _).trans ((pUp_k (by decide)).trans ?_); refine (congrFun (congrFun eF63 _) _).trans ((pUp_k (by decide)).trans ?_); refine (congrFun (congrFun eF61 _) _).trans ((pUp_k (by decide)).trans ?_); refine (congrFun (congrFun eF59 _) _).trans ((pUp_k (by decide)).trans ?_); refine (congrFun (congrFun eF57 _) _).trans ((pUp_k (by decide)).trans ?_); refine (congrFun (congrFun eF55 _) _).trans ((pUp_k (by decide)).trans ?_); refine (congrFun (congrFun eF53 _) _).trans ((pUp_k (by decide)).trans ?_); refine (congrFun (congrFun eF49 _) _).trans ((pUp_k (by decide)).trans ?_); refine (congrFun (congrFun eF40 _) _).trans ((pUp_k (by decide)).trans ?_); refine (congrFun (congrFun eF29 _) _).trans ((pUp_k (by decide)).trans ?_); refine (congrFun (congrFun eF27 _) _).trans ((pUp_k (by decide)).trans ?_); refine (congrFun (congrFun eF25 _) _).trans ((pUp_k (by decide)).trans ?_); refine (congrFun (congrFun eF23 _) _).trans ((pUp_k (by decide)).trans ?_); refine (congrFun (congrFun eF21 _) _).trans ((pUp_k (by decide)).trans ?_); refine (congrFun (congrFun eF19 _) _).trans ((pUp_k (by decide)).trans ?_); refine (congrFun (congrFun eF18 _) _).trans ((pUp_k (by decide)).trans ?_); refine (congrFun (congrFun eF16 _) _).trans ((pUp_k (by decide)).trans ?_); refine (congrFun (congrFun eF14 _) _).trans ((pUp_k (by decide)).trans ?_); refine (congrFun (congrFun eF12 _) _).trans ((pUp_k (by decide)).trans ?_); refine (congrFun (congrFun eF10 _) _).trans ((pUp_k (by decide)).trans ?_); refine (congrFun (congrFun eF8 _) _).trans ((pUp_k (by decide)).trans ?_); refine (congrFun (congrFun eF6 _) _).trans ((pUp_k (by decide)).trans ?_); exact (congrFun (congrFun eF4 _) _).trans pUp_s) ?_
  refine s_bipush (q := 494) 273 rfl ?_
  refine s_iload_n (q := 495) 274 0 rfl rfl ?_
  refine n_iadd (q := 496) 275 rfl (by decide) ?_
  refine PW.top (b := 9) (by decide) ?_
  refine s_iconst (q := 497) 276 rfl ?_
  refine n_iast (q := 498) 277 rfl (by decide) (by rfl) ⟨by decide, (show 9 < ((5535 : Nat) : Int) by decide)⟩ ?_
  refine PW.nameE (fun E105 eE105 => ?_)
  replace h := h E105 eE105
  refine s_aload_n (q := 499) 278 1 rfl rfl ?_
  refine n_getf (q := 502) (jj := 3) 279 12 3 rfl kX12_13 (by rfl) ?_
  refine PW.top (b := 68) (by refine (congrFun (congrFun eF101 _) _).trans ((pUp_k (by decide)).trans ?_); refine (congrFun (congrFun eF100 _) _).trans ((pUp_k (by decide)).trans ?_); refine (congrFun (congrFun eF98 _) _).trans ((pUp_k (by decide)).trans ?_); refine (congrFun (congrFun eF97 _) _).trans ((pUp_k (by decide)).trans ?_); refine (congrFun (congrFun eF95 _) _).trans ((pUp_k (by decide)).trans ?_); refine (congrFun (congrFun eF89 _) _).trans ((pUp_k (by decide)).trans ?_); refine (congrFun (congrFun eF87 _) _).trans ((pUp_k (by decide)).trans ?_); refine (congrFun (congrFun eF85 _) _).trans ((pUp_k (by decide)).trans ?_); refine (congrFun (congrFun eF83 _) _).trans ((pUp_k (by decide)).trans ?_); refine (congrFun (congrFun eF81 _) _).trans ((pUp_k (by decide)).trans ?_); refine (congrFun (congrFun eF79 _) _).trans ((pUp_k (by decide)).trans ?_); refine (congrFun (congrFun eF77 _) _).trans ((pUp_k (by decide)).trans ?_); refine (congrFun (congrFun eF75 _) _).trans ((pUp_k (by decide)).trans ?_); refine (congrFun (congrFun eF73 _) _).trans ((pUp_k (by decide)).trans ?_); refine (congrFun (congrFun eF71 _) _).trans ((pUp_k (by decide)).trans ?_); refine (congrFun (congrFun eF69 _) _).trans ((pUp_k (by decide)).trans ?_); refine (congrFun (congrFun eF67 _) _).trans ((pUp_k (by decide)).trans ?_); refine (congrFun (congrFun eF65 _) _).trans ((pUp_k (by decide)).trans ?_); refine (congrFun (congrFun eF63 _) _).trans ((pUp_k (by decide)).trans ?_); refine (congrFun (congrFun eF61 _) _).trans ((pUp_k (by decide)).trans ?_); refine (congrFun (congrFun eF59 _) _).trans ((pUp_k (by decide)).trans ?_); refine (congrFun (congrFun eF57 _) _).trans ((pUp_k (by decide)).trans ?_); refine (congrFun (congrFun eF55 _) _).trans ((pUp_k (by decide)).trans ?_); refine (congrFun (congrFun eF53 _) _).trans ((pUp_k (by decide)).trans ?_); refine (congrFun (congrFun eF49 _) _).trans ((pUp_k (by decide)).trans ?_); refine (congrFun (congrFun eF40 _) _).trans ((pUp_k (by decide)).trans ?_); refine (congrFun (congrFun eF29 _) _).trans ((pUp_k (by decide)).trans ?_); refine (congrFun (congrFun eF27 _) _).trans ((pUp_k (by decide)).trans ?_); refine (congrFun (congrFun eF25 _) _).trans ((pUp_k (by decide)).trans ?_); refine (congrFun (congrFun eF23 _) _).trans ((pUp_k (by decide)).trans ?_); refine (congrFun (congrFun eF21 _) _).trans ((pUp_k (by decide)).trans ?_); refine (congrFun (congrFun eF19 _) _).trans ((pUp_k (by decide)).trans ?_); refine (congrFun (congrFun eF18 _) _).trans ((pUp_k (by decide)).trans ?_); refine (congrFun (congrFun eF16 _) _).trans ((pUp_k (by decide)).trans ?_); refine (congrFun (congrFun eF14 _) _).trans ((pUp_k (by decide)).trans ?_); refine (congrFun (congrFun eF12 _) _).trans ((pUp_k (by decide)).trans ?_); refine (congrFun (congrFun eF10 _) _).trans ((pUp_k (by decide)).trans ?_); refine (congrFun (congrFun eF8 _) _).trans ((pUp_k (by decide)).trans ?_); refine (congrFun (congrFun eF6 _) _).trans ((pUp_k (by decide)).trans ?_); exact (congrFun (congrFun eF4 _) _).trans pUp_s) ?_
  refine s_bipush (q := 504) 280 rfl ?_
  refine s_iload_n (q := 505) 281 0 rfl rfl ?_
  refine n_iadd (q := 506) 282 rfl (by decide) ?_
  refine PW.top (b := 12) (by decide) ?_
  refine s_iconst (q := 507) 283 rfl ?_
  refine n_iast (q := 508) 284 rfl (by decide) (by rfl) ⟨by decide, (show 12 < ((5535 : Nat) : Int) by decide)⟩ ?_
  refine PW.nameE (fun E106 eE106 => ?_)
  replace h := h E106 eE106
  refine n_iinc (q := 511) (lv' := [(1, (0, 0 + 1)), (0, (2, 66))]) 285 0 rfl rfl (by decide) rfl ?_
  refine s_goto (tgt := 483) 286 rfl rfl ?_
  refine s_iload_n (q := 484) 268 0 rfl rfl ?_
  refine s_iconst (q := 485) 269 rfl ?_
  refine s_icmp_ge (q := 488) (tgt := 514) 270 rfl rfl (fun hb => absurd hb (by decide)) (fun _ => ?_)
  refine s_aload_n (q := 489) 271 1 rfl rfl ?_
  refine n_getf (q := 492) (jj := 3) 272 12 3 rfl kX12_13 (by rfl) ?_
  refine PW.top (b := 68) (by refine (congrFun (congrFun eF101 _) _).trans ((pUp_k (by decide)).trans ?_); refine (congrFun (congrFun eF100 _) _).trans ((pUp_k (by decide)).trans ?_); refine (congrFun (congrFun eF98 _) _).trans ((pUp_k (by decide)).trans ?_); refine (congrFun (congrFun eF97 _) _).trans ((pUp_k (by decide)).trans ?_); refine (congrFun (congrFun eF95 _) _).trans ((pUp_k (by decide)).trans ?_); refine (congrFun (congrFun eF89 _) _).trans ((pUp_k (by decide)).trans ?_); refine (congrFun (congrFun eF87 _) _).trans ((pUp_k (by decide)).trans ?_); refine (congrFun (congrFun eF85 _) _).trans ((pUp_k (by decide)).trans ?_); refine (congrFun (congrFun eF83 _) _).trans ((pUp_k (by decide)).trans ?_); refine (congrFun (congrFun eF81 _) _).trans ((pUp_k (by decide)).trans ?_); refine (congrFun (congrFun eF79 _) _).trans ((pUp_k (by decide)).trans ?_); refine (congrFun (congrFun eF77 _) _).trans ((pUp_k (by decide)).trans ?_); refine (congrFun (congrFun eF75 _) _).trans ((pUp_k (by decide)).trans ?_); refine (congrFun (congrFun eF73 _) _).trans ((pUp_k (by decide)).trans ?_); refine (congrFun (congrFun eF71 _) _).trans ((pUp_k (by decide)).trans ?_); refine (congrFun (congrFun eF69 _) _).trans ((pUp_k (by decide)).trans ?_); refine (congrFun (congrFun eF67 _) _).trans ((pUp_k (by decide)).trans ?_); refine (congrFun (congrFun eF65 _) _).trans ((pUp_k (by decide)).trans ?_); refine (congrFun (congrFun eF63 _) _).trans ((pUp_k (by decide)).trans ?_); refine (congrFun (congrFun eF61 _) _).trans ((pUp_k (by decide)).trans ?_); refine (congrFun (congrFun eF59 _) _).trans ((pUp_k (by decide)).trans ?_); refine (congrFun (congrFun eF57 _) _).trans ((pUp_k (by decide)).trans ?_); refine (congrFun (congrFun eF55 _) _).trans ((pUp_k (by decide)).trans ?_); refine (congrFun (congrFun eF53 _) _).trans ((pUp_k (by decide)).trans ?_); refine (congrFun (congrFun eF49 _) _).trans ((pUp_k (by decide)).trans ?_); refine (congrFun (congrFun eF40 _) _).trans ((pUp_k (by decide)).trans ?_); refine (congrFun (congrFun eF29 _) _).trans ((pUp_k (by decide)).trans ?_); refine (congrFun (congrFun eF27 _) _).trans ((pUp_k (by decide)).trans ?_); refine (congrFun (congrFun eF25 _) _).trans ((pUp_k (by decide)).trans ?_); refine (congrFun (congrFun eF23 _) _).trans ((pUp_k (by decide)).trans ?_); refine (congrFun (congrFun eF21 _) _).trans ((pUp_k (by decide)).trans ?_); refine (congrFun (congrFun eF19 _) _).trans ((pUp_k (by decide)).trans ?_); refine (congrFun (congrFun eF18 _) _).trans ((pUp_k (by decide)).trans ?_); refine (congrFun (congrFun eF16 _) _).trans ((pUp_k (by decide)).trans ?_); refine (congrFun (congrFun eF14 _) _).trans ((pUp_k (by decide)).trans ?_); refine (congrFun (congrFun eF12 _) _).trans ((pUp_k (by decide)).trans ?_); refine (congrFun (congrFun eF10 _) _).trans ((pUp_k (by decide)).trans ?_); refine (congrFun (congrFun eF8 _) _).trans ((pUp_k (by decide)).trans ?_); refine (congrFun (congrFun eF6 _) _).trans ((pUp_k (by decide)).trans ?_); exact (congrFun (congrFun eF4 _) _).trans pUp_s) ?_
  refine s_bipush (q := 494) 273 rfl ?_
  refine s_iload_n (q := 495) 274 0 rfl rfl ?_
  refine n_iadd (q := 496) 275 rfl (by decide) ?_
  refine PW.top (b := 10) (by decide) ?_
  refine s_iconst (q := 497) 276 rfl ?_
  refine n_iast (q := 498) 277 rfl (by decide) (by rfl) ⟨by decide, (show 10 < ((5535 : Nat) : Int) by decide)⟩ ?_
  refine PW.nameE (fun E107 eE107 => ?_)
  replace h := h E107 eE107
  refine s_aload_n (q := 499) 278 1 rfl rfl ?_
  refine n_getf (q := 502) (jj := 3) 279 12 3 rfl kX12_13 (by rfl) ?_
  refine PW.top (b := 68) (by refine (congrFun (congrFun eF101 _) _).trans ((pUp_k (by decide)).trans ?_); refine (congrFun (congrFun eF100 _) _).trans ((pUp_k (by decide)).trans ?_); refine (congrFun (congrFun eF98 _) _).trans ((pUp_k (by decide)).trans ?_); refine (congrFun (congrFun eF97 _) _).trans ((pUp_k (by decide)).trans ?_); refine (congrFun (congrFun eF95 _) _).trans ((pUp_k (by decide)).trans ?_); refine (congrFun (congrFun eF89 _) _).trans ((pUp_k (by decide)).trans ?_); refine (congrFun (congrFun eF87 _) _).trans ((pUp_k (by decide)).trans ?_); refine (congrFun (congrFun eF85 _) _).trans ((pUp_k (by decide)).trans ?_); refine (congrFun (congrFun eF83 _) _).trans ((pUp_k (by decide)).trans ?_); refine (congrFun (congrFun eF81 _) _).trans ((pUp_k (by decide)).trans ?_); refine (congrFun (congrFun eF79 _) _).trans ((pUp_k (by decide)).trans ?_); refine (congrFun (congrFun eF77 _) _).trans ((pUp_k (by decide)).trans ?_); refine (congrFun (congrFun eF75 _) _).trans ((pUp_k (by decide)).trans ?_); refine (congrFun (congrFun eF73 _) _).trans ((pUp_k (by decide)).trans ?_); refine (congrFun (congrFun eF71 _) _).trans ((pUp_k (by decide)).trans ?_); refine (congrFun (congrFun eF69 _) _).trans ((pUp_k (by decide)).trans ?_); refine (congrFun (congrFun eF67 _) _).trans ((pUp_k (by decide)).trans ?_); refine (congrFun (congrFun eF65 _) _).trans ((pUp_k (by decide)).trans ?_); refine (congrFun (congrFun eF63 _) _).trans ((pUp_k (by decide)).trans ?_); refine (congrFun (congrFun eF61 _) _).trans ((pUp_k (by decide)).trans ?_); refine (congrFun (congrFun eF59 _) _).trans ((pUp_k (by decide)).trans ?_); refine (congrFun (congrFun eF57 _) _).trans ((pUp_k (by decide)).trans ?_); refine (congrFun (congrFun eF55 _) _).trans ((pUp_k (by decide)).trans ?_); refine (congrFun (congrFun eF53 _) _).trans ((pUp_k (by decide)).trans ?_); refine (congrFun (congrFun eF49 _) _).trans ((pUp_k (by decide)).trans ?_); refine (congrFun (congrFun eF40 _) _).trans ((pUp_k (by decide)).trans ?_); refine (congrFun (congrFun eF29 _) _).trans ((pUp_k (by decide)).trans ?_); refine (congrFun (congrFun eF27 _) _).trans ((pUp_k (by decide)).trans ?_); refine (congrFun (congrFun eF25 _) _).trans ((pUp_k (by decide)).trans ?_); refine (congrFun (congrFun eF23 _) _).trans ((pUp_k (by decide)).trans ?_); refine (congrFun (congrFun eF21 _) _).trans ((pUp_k (by decide)).trans ?_); refine (congrFun (congrFun eF19 _) _).trans ((pUp_k (by decide)).trans ?_); refine (congrFun (congrFun eF18 _) _).trans ((pUp_k (by decide)).trans ?_); refine (congrFun (congrFun eF16 _) _).trans ((pUp_k (by decide)).trans ?_); refine (congrFun (congrFun eF14 _) _).trans ((pUp_k (by decide)).trans ?_); refine (congrFun (congrFun eF12 _) _).trans ((pUp_k (by decide)).trans ?_); refine (congrFun (congrFun eF10 _) _).trans ((pUp_k (by decide)).trans ?_); refine (congrFun (congrFun eF8 _) _).trans ((pUp_k (by decide)).trans ?_); refine (congrFun (congrFun eF6 _) _).trans ((pUp_k (by decide)).trans ?_); exact (congrFun (congrFun eF4 _) _).trans pUp_s) ?_
  refine s_bipush (q := 504) 280 rfl ?_
  refine s_iload_n (q := 505) 281 0 rfl rfl ?_
  refine n_iadd (q := 506) 282 rfl (by decide) ?_
  refine PW.top (b := 13) (by decide) ?_
  refine s_iconst (q := 507) 283 rfl ?_
  refine n_iast (q := 508) 284 rfl (by decide) (by rfl) ⟨by decide, (show 13 < ((5535 : Nat) : Int) by decide)⟩ ?_
  refine PW.nameE (fun E108 eE108 => ?_)
  replace h := h E108 eE108
  refine n_iinc (q := 511) (lv' := [(1, (0, 0 + 1 + 1)), (0, (2, 66))]) 285 0 rfl rfl (by decide) rfl ?_
  refine s_goto (tgt := 483) 286 rfl rfl ?_
  refine s_iload_n (q := 484) 268 0 rfl rfl ?_
  refine s_iconst (q := 485) 269 rfl ?_
  refine s_icmp_ge (q := 488) (tgt := 514) 270 rfl rfl (fun hb => absurd hb (by decide)) (fun _ => ?_)
  refine s_aload_n (q := 489) 271 1 rfl rfl ?_
  refine n_getf (q := 492) (jj := 3) 272 12 3 rfl kX12_13 (by rfl) ?_
  refine PW.top (b := 68) (by refine (congrFun (congrFun eF101 _) _).trans ((pUp_k (by decide)).trans ?_); refine (congrFun (congrFun eF100 _) _).trans ((pUp_k (by decide)).trans ?_); refine (congrFun (congrFun eF98 _) _).trans ((pUp_k (by decide)).trans ?_); refine (congrFun (congrFun eF97 _) _).trans ((pUp_k (by decide)).trans ?_); refine (congrFun (congrFun eF95 _) _).trans ((pUp_k (by decide)).trans ?_); refine (congrFun (congrFun eF89 _) _).trans ((pUp_k (by decide)).trans ?_); refine (congrFun (congrFun eF87 _) _).trans ((pUp_k (by decide)).trans ?_); refine (congrFun (congrFun eF85 _) _).trans ((pUp_k (by decide)).trans ?_); refine (congrFun (congrFun eF83 _) _).trans ((pUp_k (by decide)).trans ?_); refine (congrFun (congrFun eF81 _) _).trans ((pUp_k (by decide)).trans ?_); refine (congrFun (congrFun eF79 _) _).trans ((pUp_k (by decide)).trans ?_); refine (congrFun (congrFun eF77 _) _).trans ((pUp_k (by decide)).trans ?_); refine (congrFun (congrFun eF75 _) _).trans ((pUp_k (by decide)).trans ?_); refine (congrFun (congrFun eF73 _) _).trans ((pUp_k (by decide)).trans ?_); refine (congrFun (congrFun eF71 _) _).trans ((pUp_k (by decide)).trans ?_); refine (congrFun (congrFun eF69 _) _).trans ((pUp_k (by decide)).trans ?_); refine (congrFun (congrFun eF67 _) _).trans ((pUp_k (by decide)).trans ?_); refine (congrFun (congrFun eF65 _) _).trans ((pUp_k (by decide)).trans ?_); refine (congrFun (congrFun eF63 _) _).trans ((pUp_k (by decide)).trans ?_); refine (congrFun (congrFun eF61 _) _).trans ((pUp_k (by decide)).trans ?_); refine (congrFun (congrFun eF59 _) _).trans ((pUp_k (by decide)).trans ?_); refine (congrFun (congrFun eF57 _) _).trans ((pUp_k (by decide)).trans ?_); refine (congrFun (congrFun eF55 _) _).trans ((pUp_k (by decide)).trans ?_); refine (congrFun (congrFun eF53 _) _).trans ((pUp_k (by decide)).trans ?_); refine (congrFun (congrFun eF49 _) _).trans ((pUp_k (by decide)).trans ?_); refine (congrFun (congrFun eF40 _) _).trans ((pUp_k (by decide)).trans ?_); refine (congrFun (congrFun eF29 _) _).trans ((pUp_k (by decide)).trans ?_); refine (congrFun (congrFun eF27 _) _).trans ((pUp_k (by decide)).trans ?_); refine (congrFun (congrFun eF25 _) _).trans ((pUp_k (by decide)).trans ?_); refine (congrFun (congrFun eF23 _) _).trans ((pUp_k (by decide)).trans ?_); refine (congrFun (congrFun eF21 _) _).trans ((pUp_k (by decide)).trans ?_); refine (congrFun (congrFun eF19 _) _).trans ((pUp_k (by decide)).trans ?_); refine (congrFun (congrFun eF18 _) _).trans ((pUp_k (by decide)).trans ?_); refine (congrFun (congrFun eF16 _) _).trans ((pUp_k (by decide)).trans ?_); refine (congrFun (congrFun eF14 _) _).trans ((pUp_k (by decide)).trans ?_); refine (congrFun (congrFun eF12 _) _).trans ((pUp_k (by decide)).trans ?_); refine (congrFun (congrFun eF10 _) _).trans ((pUp_k (by decide)).trans ?_); refine (congrFun (congrFun eF8 _) _).trans ((pUp_k (by decide)).trans ?_); refine (congrFun (congrFun eF6 _) _).trans ((pUp_k (by decide)).trans ?_); exact (congrFun (congrFun eF4 _) _).trans pUp_s) ?_
  refine s_bipush (q := 494) 273 rfl ?_
  refine s_iload_n (q := 495) 274 0 rfl rfl ?_
  refine n_iadd (q := 496) 275 rfl (by decide) ?_
  refine PW.top (b := 11) (by decide) ?_
  refine s_iconst (q := 497) 276 rfl ?_
  refine n_iast (q := 498) 277 rfl (by decide) (by rfl) ⟨by decide, (show 11 < ((5535 : Nat) : Int) by decide)⟩ ?_
  refine PW.nameE (fun E109 eE109 => ?_)
  replace h := h E109 eE109
  refine s_aload_n (q := 499) 278 1 rfl rfl ?_
  refine n_getf (q := 502) (jj := 3) 279 12 3 rfl kX12_13 (by rfl) ?_
  refine PW.top (b := 68) (by refine (congrFun (congrFun eF101 _) _).trans ((pUp_k (by decide)).trans ?_); refine (congrFun (congrFun eF100 _) _).trans ((pUp_k (by decide)).trans ?_); refine (congrFun (congrFun eF98 _) _).trans ((pUp_k (by decide)).trans ?_); refine (congrFun (congrFun eF97 _) _).trans ((pUp_k (by decide)).trans ?_); refine (congrFun (congrFun eF95 _) _).trans ((pUp_k (by decide)).trans ?_); refine (congrFun (congrFun eF89 _) _).trans ((pUp_k (by decide)).trans ?_); refine (congrFun (congrFun eF87 _) _).trans ((pUp_k (by decide)).trans ?_); refine (congrFun (congrFun eF85 _) _).trans ((pUp_k (by decide)).trans ?_); refine (congrFun (congrFun eF83 _) _).trans ((pUp_k (by decide)).trans ?_); refine (congrFun (congrFun eF81 _) _).trans ((pUp_k (by decide)).trans ?_); refine (congrFun (congrFun eF79 _) _).trans ((pUp_k (by decide)).trans ?_); refine (congrFun (congrFun eF77 _) _).trans ((pUp_k (by decide)).trans ?_); refine (congrFun (congrFun eF75 _) _).trans ((pUp_k (by decide)).trans ?_); refine (congrFun (congrFun eF73 _) _).trans ((pUp_k (by decide)).trans ?_); refine (congrFun (congrFun eF71 _) _).trans ((pUp_k (by decide)).trans ?_); refine (congrFun (congrFun eF69 _) _).trans ((pUp_k (by decide)).trans ?_); refine (congrFun (congrFun eF67 _) _).trans ((pUp_k (by decide)).trans ?_); refine (congrFun (congrFun eF65 _) _).trans ((pUp_k (by decide)).trans ?_); refine (congrFun (congrFun eF63 _) _).trans ((pUp_k (by decide)).trans ?_); refine (congrFun (congrFun eF61 _) _).trans ((pUp_k (by decide)).trans ?_); refine (congrFun (congrFun eF59 _) _).trans ((pUp_k (by decide)).trans ?_); refine (congrFun (congrFun eF57 _) _).trans ((pUp_k (by decide)).trans ?_); refine (congrFun (congrFun eF55 _) _).trans ((pUp_k (by decide)).trans ?_); refine (congrFun (congrFun eF53 _) _).trans ((pUp_k (by decide)).trans ?_); refine (congrFun (congrFun eF49 _) _).trans ((pUp_k (by decide)).trans ?_); refine (congrFun (congrFun eF40 _) _).trans ((pUp_k (by decide)).trans ?_); refine (congrFun (congrFun eF29 _) _).trans ((pUp_k (by decide)).trans ?_); refine (congrFun (congrFun eF27 _) _).trans ((pUp_k (by decide)).trans ?_); refine (congrFun (congrFun eF25 _) _).trans ((pUp_k (by decide)).trans ?_); refine (congrFun (congrFun eF23 _) _).trans ((pUp_k (by decide)).trans ?_); refine (congrFun (congrFun eF21 _) _).trans ((pUp_k (by decide)).trans ?_); refine (congrFun (congrFun eF19 _) _).trans ((pUp_k (by decide)).trans ?_); refine (congrFun (congrFun eF18 _) _).trans ((pUp_k (by decide)).trans ?_); refine (congrFun (congrFun eF16 _) _).trans ((pUp_k (by decide)).trans ?_); refine (congrFun (congrFun eF14 _) _).trans ((pUp_k (by decide)).trans ?_); refine (congrFun (congrFun eF12 _) _).trans ((pUp_k (by decide)).trans ?_); refine (congrFun (congrFun eF10 _) _).trans ((pUp_k (by decide)).trans ?_); refine (congrFun (congrFun eF8 _) _).trans ((pUp_k (by decide)).trans ?_); refine (congrFun (congrFun eF6 _) _).trans ((pUp_k (by decide)).trans ?_); exact (congrFun (congrFun eF4 _) _).trans pUp_s) ?_
  refine s_bipush (q := 504) 280 rfl ?_
  refine s_iload_n (q := 505) 281 0 rfl rfl ?_
  refine n_iadd (q := 506) 282 rfl (by decide) ?_
  refine PW.top (b := 14) (by decide) ?_
  refine s_iconst (q := 507) 283 rfl ?_
  refine n_iast (q := 508) 284 rfl (by decide) (by rfl) ⟨by decide, (show 14 < ((5535 : Nat) : Int) by decide)⟩ ?_
  refine PW.nameE (fun E110 eE110 => ?_)
  replace h := h E110 eE110
  refine n_iinc (q := 511) (lv' := [(1, (0, 0 + 1 + 1 + 1)), (0, (2, 66))]) 285 0 rfl rfl (by decide) rfl ?_
  refine s_goto (tgt := 483) 286 rfl rfl ?_
  refine s_iload_n (q := 484) 268 0 rfl rfl ?_
  refine s_iconst (q := 485) 269 rfl ?_
  refine s_icmp_ge (q := 488) (tgt := 514) 270 rfl rfl (fun _ => ?_) (fun hb => absurd (by decide) hb)
  exact s_vret 287 rfl rfl h
