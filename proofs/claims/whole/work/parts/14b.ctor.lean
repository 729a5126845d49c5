set_option maxHeartbeats 8000000 in
set_option maxRecDepth 100000 in
theorem vX11_init_0 {l : Launch} {G : pG} {K : Int → Nat × Nat} {F E : Int → Int → Int} {Q : Option pV → pM → Prop} (h : (∀ F1, F1 = pRow F 1 (pDef 1) → (∀ F2, F2 = pRow F1 2 (pDef 0) → (∀ E3, E3 = pRow E 3 (fun _ => 0) → (∀ F4, F4 = pUp F2 2 0 3 → (∀ E5, E5 = pUp E3 3 3 4 → (∀ E6, E6 = pUp E5 3 6 2 → (∀ E7, E7 = pUp E6 3 4 4 → (∀ E8, E8 = pUp E7 3 7 2 → (∀ E9, E9 = pUp E8 3 5 4 → (∀ E10, E10 = pUp E9 3 8 2 → (∀ F11, F11 = pUp F4 1 0 2 → (∀ E12, E12 = pRow E10 4 (fun _ => 0) → (∀ E13, E13 = pUp E12 4 0 999 → (∀ E14, E14 = pUp E13 4 1 1 → (∀ E15, E15 = pUp E14 4 2 0 → (∀ F16, F16 = pUp F11 1 1 4 → (∀ E17, E17 = pRow E15 5 (fun _ => 0) → (∀ F18, F18 = pUp F16 1 2 5 → (∀ E19, E19 = pRow E17 6 (fun _ => 0) → (∀ F20, F20 = pUp F18 1 3 6 → (∀ F21, F21 = pUp F20 1 4 0 → (∀ E22, E22 = pRow E19 7 (fun _ => -1) → (∀ F23, F23 = pUp F21 1 5 7 → (∀ F24, F24 = pUp F23 1 6 0 → (∀ F25, F25 = pUp F24 1 7 (-1) → (∀ F26, F26 = pUp F25 0 0 1 → (∀ E27, E27 = pRow E22 8 (fun _ => -1) → (∀ F28, F28 = pUp F26 0 1 8 → (∀ E29, E29 = pRow E27 9 (fun _ => 0) → (∀ F30, F30 = pUp F28 0 2 9 → (∀ F31, F31 = pRow F30 10 (pDef 3) → (∀ E32, E32 = pRow E29 11 (fun _ => 0) → (∀ F33, F33 = pUp F31 10 0 11 → (∀ E34, E34 = pRow E32 12 (fun _ => 0) → (∀ F35, F35 = pUp F33 10 1 12 → (∀ F36, F36 = pUp F35 10 2 0 → (∀ F37, F37 = pUp F36 10 3 0 → (∀ F38, F38 = pUp F37 0 3 10 → (∀ F39, F39 = pRow F38 13 (pDef 3) → (∀ E40, E40 = pRow E34 14 (fun _ => 0) → (∀ F41, F41 = pUp F39 13 0 14 → (∀ E42, E42 = pRow E40 15 (fun _ => 0) → (∀ F43, F43 = pUp F41 13 1 15 → (∀ F44, F44 = pUp F43 13 2 0 → (∀ F45, F45 = pUp F44 13 3 0 → (∀ F46, F46 = pUp F45 0 4 13 → (∀ F47, F47 = pRow F46 16 (pDef 0) → (∀ E48, E48 = pRow E42 17 (fun _ => 0) → (∀ F49, F49 = pUp F47 16 0 17 → (∀ E50, E50 = pUp E48 17 3 4 → (∀ E51, E51 = pUp E50 17 6 2 → (∀ E52, E52 = pUp E51 17 4 4 → (∀ E53, E53 = pUp E52 17 7 2 → (∀ E54, E54 = pUp E53 17 5 4 → (∀ E55, E55 = pUp E54 17 8 2 → (∀ F56, F56 = pUp F49 0 5 16 → (∀ F57, F57 = pRow F56 18 (pDef 0) → (∀ E58, E58 = pRow E55 19 (fun _ => 0) → (∀ F59, F59 = pUp F57 18 0 19 → (∀ E60, E60 = pUp E58 19 3 4 → (∀ E61, E61 = pUp E60 19 6 2 → (∀ E62, E62 = pUp E61 19 4 4 → (∀ E63, E63 = pUp E62 19 7 2 → (∀ E64, E64 = pUp E63 19 5 4 → (∀ E65, E65 = pUp E64 19 8 2 → (∀ F66, F66 = pUp F59 0 6 18 → (∀ F67, F67 = pUp F66 0 7 0 → (∀ F68, F68 = pRow F67 20 (pDef 5) → (∀ F69, F69 = pRow F68 21 (pDef 10) → (∀ F70, F70 = pRow F69 22 (pDef 8) → (∀ E71, E71 = pRow E65 23 (fun _ => 0) → (∀ F72, F72 = pUp F70 22 0 23 → (∀ F73, F73 = pUp F72 22 1 0 → (∀ F74, F74 = pUp F73 21 0 22 → (∀ E75, E75 = pRow E71 24 (fun _ => 0) → (∀ F76, F76 = pUp F74 21 1 24 → (∀ E77, E77 = pRow E75 25 (fun _ => 0) → (∀ F78, F78 = pUp F76 21 2 25 → (∀ E79, E79 = pRow E77 26 (fun _ => 0) → (∀ F80, F80 = pUp F78 21 3 26 → (∀ F81, F81 = pUp F80 20 0 21 → (∀ F82, F82 = pRow F81 27 (pDef 9) → (∀ E83, E83 = pRow E79 28 (fun _ => 0) → (∀ F84, F84 = pUp F82 27 0 28 → (∀ E85, E85 = pRow E83 29 (fun _ => 0) → (∀ F86, F86 = pUp F84 27 1 29 → (∀ F87, F87 = pUp F86 27 2 0 → (∀ F88, F88 = pUp F87 27 3 0 → (∀ F89, F89 = pUp F88 20 1 27 → (∀ F90, F90 = pUp F89 20 2 0 → (∀ F91, F91 = pUp F90 20 3 0 → (∀ F92, F92 = pUp F91 20 4 0 → (∀ F93, F93 = pUp F92 0 8 20 → (∀ F94, F94 = pUp F93 0 9 22 → (∀ F95, F95 = pRow F94 30 (pDef 6) → (∀ F96, F96 = pRow F95 31 (pDef 4) → (∀ E97, E97 = pRow E85 32 (fun _ => 0) → (∀ F98, F98 = pUp F96 31 0 32 → (∀ F99, F99 = pUp F98 30 0 31 → (∀ E100, E100 = pRow E97 33 (fun _ => 0) → (∀ F101, F101 = pUp F99 30 1 33 → (∀ F102, F102 = pRow F101 34 (pDef 0) → (∀ E103, E103 = pRow E100 35 (fun _ => 0) → (∀ F104, F104 = pUp F102 34 0 35 → (∀ E105, E105 = pUp E103 35 3 4 → (∀ E106, E106 = pUp E105 35 6 2 → (∀ E107, E107 = pUp E106 35 4 4 → (∀ E108, E108 = pUp E107 35 7 2 → (∀ E109, E109 = pUp E108 35 5 4 → (∀ E110, E110 = pUp E109 35 8 2 → (∀ F111, F111 = pUp F104 30 2 34 → (∀ F112, F112 = pUp F111 30 3 (-1) → (∀ F113, F113 = pUp F112 30 4 (-1) → (∀ F114, F114 = pUp F113 30 5 0 → (∀ F115, F115 = pUp F114 30 6 0 → (∀ E116, E116 = pRow E110 36 (fun _ => 0) → (∀ F117, F117 = pUp F115 30 7 36 → (∀ E118, E118 = pRow E116 37 (fun _ => 0) → (∀ F119, F119 = pUp F117 30 8 37 → (∀ E120, E120 = pRow E118 38 (fun _ => 0) → (∀ F121, F121 = pUp F119 30 9 38 → (∀ E122, E122 = pRow E120 39 (fun _ => 0) → (∀ F123, F123 = pUp F121 30 10 39 → (∀ E124, E124 = pRow E122 40 (fun _ => 0) → (∀ F125, F125 = pUp F123 30 11 40 → (∀ F126, F126 = pUp F125 30 12 0 → (∀ F127, F127 = pUp F126 30 13 0 → (∀ F128, F128 = pUp F127 30 14 0 → (∀ F129, F129 = pUp F128 30 15 0 → (∀ F130, F130 = pUp F129 30 16 0 → (∀ F131, F131 = pUp F130 0 10 30 → (∀ F132, F132 = pRow F131 41 (pDef 2) → (∀ E133, E133 = pRow E124 42 (fun _ => 0) → (∀ F134, F134 = pUp F132 41 0 42 → (∀ F135, F135 = pUp F134 41 1 0 → (∀ E136, E136 = pRow E133 43 (fun _ => 0) → (∀ F137, F137 = pUp F135 41 2 43 → (∀ F138, F138 = pUp F137 41 3 0 → (∀ F139, F139 = pUp F138 41 4 0 → (∀ F140, F140 = pUp F139 0 11 41 → (∀ F141, F141 = pRow F140 44 (pDef 7) → (∀ F142, F142 = pRow F141 45 (pDef 4) → (∀ E143, E143 = pRow E136 46 (fun _ => 0) → (∀ F144, F144 = pUp F142 45 0 46 → (∀ F145, F145 = pUp F144 44 0 45 → (∀ E146, E146 = pRow E143 47 (fun _ => 0) → (∀ F147, F147 = pUp F145 44 1 47 → (∀ E148, E148 = pRow E146 48 (fun _ => 0) → (∀ F149, F149 = pUp F147 44 2 48 → (∀ F150, F150 = pUp F149 44 3 0 → (∀ F151, F151 = pUp F150 44 4 (-1) → (∀ F152, F152 = pUp F151 44 5 (-1) → (∀ F153, F153 = pUp F152 0 12 44 → (∀ E154, E154 = pRow E148 49 (fun _ => 0) → (∀ F155, F155 = pUp F153 0 13 49 → (∀ E156, E156 = pRow E154 50 (fun _ => 0) → (∀ F157, F157 = pUp F155 0 14 50 → (∀ E158, E158 = pRow E156 51 (fun _ => 0) → (∀ F159, F159 = pUp F157 0 15 51 → (∀ F160, F160 = pUp F159 0 16 0 → (∀ F161, F161 = pUp F160 0 17 (-1) → (∀ F162, F162 = pUp F161 0 18 0 → (∀ F163, F163 = pRow F162 52 (pDef 1) → (∀ F164, F164 = pRow F163 53 (pDef 0) → (∀ E165, E165 = pRow E158 54 (fun _ => 0) → (∀ F166, F166 = pUp F164 53 0 54 → (∀ E167, E167 = pUp E165 54 3 4 → (∀ E168, E168 = pUp E167 54 6 2 → (∀ E169, E169 = pUp E168 54 4 4 → (∀ E170, E170 = pUp E169 54 7 2 → (∀ E171, E171 = pUp E170 54 5 4 → (∀ E172, E172 = pUp E171 54 8 2 → (∀ F173, F173 = pUp F166 52 0 53 → (∀ E174, E174 = pRow E172 55 (fun _ => 0) → (∀ E175, E175 = pUp E174 55 0 999 → (∀ E176, E176 = pUp E175 55 1 1 → (∀ E177, E177 = pUp E176 55 2 0 → (∀ F178, F178 = pUp F173 52 1 55 → (∀ E179, E179 = pRow E177 56 (fun _ => 0) → (∀ F180, F180 = pUp F178 52 2 56 → (∀ E181, E181 = pRow E179 57 (fun _ => 0) → (∀ F182, F182 = pUp F180 52 3 57 → (∀ F183, F183 = pUp F182 52 4 0 → (∀ E184, E184 = pRow E181 58 (fun _ => -1) → (∀ F185, F185 = pUp F183 52 5 58 → (∀ F186, F186 = pUp F185 52 6 0 → (∀ F187, F187 = pUp F186 52 7 (-1) → (∀ E188, E188 = pUp E184 8 0 52 → (∀ F189, F189 = pRow F187 59 (pDef 1) → (∀ F190, F190 = pRow F189 60 (pDef 0) → (∀ E191, E191 = pRow E188 61 (fun _ => 0) → (∀ F192, F192 = pUp F190 60 0 61 → (∀ E193, E193 = pUp E191 61 3 4 → (∀ E194, E194 = pUp E193 61 6 2 → (∀ E195, E195 = pUp E194 61 4 4 → (∀ E196, E196 = pUp E195 61 7 2 → (∀ E197, E197 = pUp E196 61 5 4 → (∀ E198, E198 = pUp E197 61 8 2 → (∀ F199, F199 = pUp F192 59 0 60 → (∀ E200, E200 = pRow E198 62 (fun _ => 0) → (∀ E201, E201 = pUp E200 62 0 999 → (∀ E202, E202 = pUp E201 62 1 1 → (∀ E203, E203 = pUp E202 62 2 0 → (∀ F204, F204 = pUp F199 59 1 62 → (∀ E205, E205 = pRow E203 63 (fun _ => 0) → (∀ F206, F206 = pUp F204 59 2 63 → (∀ E207, E207 = pRow E205 64 (fun _ => 0) → (∀ F208, F208 = pUp F206 59 3 64 → (∀ F209, F209 = pUp F208 59 4 0 → (∀ E210, E210 = pRow E207 65 (fun _ => -1) → (∀ F211, F211 = pUp F209 59 5 65 → (∀ F212, F212 = pUp F211 59 6 0 → (∀ F213, F213 = pUp F212 59 7 (-1) → (∀ E214, E214 = pUp E210 8 (0 + 1) 59 → Q none (66, pKt K 66, F213, E214)))))))))))))))))))))))))))))))))))))))))))))))))))))))))))))))))))))))))))))))))))))))))))))))))))))))))))))))))))))))))))))))))))))))))))))))))))))))))))))))))))))))))))))))))))))))))))))))))))))))))))))))))))))))) : PW l G 3 mX11_init (65, 8079) 0 [(0, (2, 0))] [] (1, pKt K 1, F, E) Q := by
  refine s_aload_n (q := 1) 0 0 rfl rfl ?_
  refine s_obj (q := 4) 1 rfl kX11_1 (by decide) ?_
  refine s_aload_n (q := 5) 2 0 rfl rfl ?_
  refine n_new (q := 8) (a := 1) (n' := 2) 3 1 64 8071 rfl (by decide) kX11_7 kin_1.1 kin_1.2 (by decide) ?_
  refine PW.nameF (fun F1 eF1 => ?_)
  replace h := h F1 eF1
  refine s_dup (q := 9) 4 rfl ?_
  refine s_callN (b' := (6, 139)) (N := mX1_init) (as := []) (st := [(2, 1), (2, 0)]) (q := 12) (d' := 1) 5 rfl uX1_init kX11_9 rfl (by decide) ?_
  show PW l G 1 mX1_init (6, 139) 0 [(0, (2, 1))] [] (2, pKt K 2, F1, E) _
  refine s_aload_n (q := 1) 0 0 rfl rfl ?_
  refine s_obj (q := 4) 1 rfl kX1_3 (by decide) ?_
  refine s_aload_n (q := 5) 2 0 rfl rfl ?_
  refine n_new (q := 8) (a := 2) (n' := 3) 3 0 5 138 rfl (by decide) kX1_9 kin_0.1 kin_0.2 (by decide) ?_
  refine PW.nameF (fun F2 eF2 => ?_)
  replace h := h F2 eF2
  refine s_dup (q := 9) 4 rfl ?_
  refine s_callI (b' := (1, 117)) (N := mX0_init) (as := []) (st := [(2, 2), (2, 1)]) (q := 12) (d' := 0) 5 rfl uX0_init kX1_11 rfl (by decide) ?_
  show PW l G 0 mX0_init (1, 117) 0 [(0, (2, 2))] [] (3, pKt K 3, F2, E) _
  refine s_aload_n (q := 1) 0 0 rfl rfl ?_
  refine s_obj (q := 4) 1 rfl kX0_3 (by decide) ?_
  refine s_aload_n (q := 5) 2 0 rfl rfl ?_
  refine s_bipush (q := 7) 3 rfl ?_
  refine n_newa (q := 9) (a := 3) (n' := 4) (z := 117) 4 0 0 0 rfl (by decide) kar_int (by decide) (by decide) ?_
  refine PW.nameE (fun E3 eE3 => ?_)
  replace h := h E3 eE3
  refine n_putf (q := 12) (jj := 0) 5 0 0 rfl kX0_11 (by rfl) (Or.inr (Or.inr (Or.inr (Or.inr ⟨_, rfl⟩)))) ?_
  refine PW.nameF (fun F4 eF4 => ?_)
  replace h := h F4 eF4
  refine s_iconst (q := 13) 6 rfl ?_
  refine s_istore_n (q := 14) (lv' := [(1, (0, 0)), (0, (2, 2))]) 7 rfl rfl ?_
  refine s_iload_n (q := 15) 8 0 rfl rfl ?_
  refine s_iconst (q := 16) 9 rfl ?_
  refine s_icmp_ge (q := 19) (tgt := 44) 10 rfl rfl (fun hb => absurd hb (by decide)) (fun _ => ?_)
  refine s_aload_n (q := 20) 11 1 rfl rfl ?_
  refine n_getf (q := 23) (jj := 0) 12 0 0 rfl kX0_11 (by rfl) ?_
  refine PW.top (b := 3) (by exact (congrFun (congrFun eF4 _) _).trans pUp_s) ?_
  refine s_iconst (q := 24) 13 rfl ?_
  refine s_iload_n (q := 25) 14 0 rfl rfl ?_
  refine n_iadd (q := 26) 15 rfl (by decide) ?_
  refine PW.top (b := 3) (by decide) ?_
  refine s_iconst (q := 27) 16 rfl ?_
  refine n_iast (q := 28) 17 rfl (by decide) (by rfl) ⟨by decide, (show 3 < ((117 : Nat) : Int) by decide)⟩ ?_
  refine PW.nameE (fun E5 eE5 => ?_)
  replace h := h E5 eE5
  refine s_aload_n (q := 29) 18 1 rfl rfl ?_
  refine n_getf (q := 32) (jj := 0) 19 0 0 rfl kX0_11 (by rfl) ?_
  refine PW.top (b := 3) (by exact (congrFun (congrFun eF4 _) _).trans pUp_s) ?_
  refine s_bipush (q := 34) 20 rfl ?_
  refine s_iload_n (q := 35) 21 0 rfl rfl ?_
  refine n_iadd (q := 36) 22 rfl (by decide) ?_
  refine PW.top (b := 6) (by decide) ?_
  refine s_iconst (q := 37) 23 rfl ?_
  refine n_iast (q := 38) 24 rfl (by decide) (by rfl) ⟨by decide, (show 6 < ((117 : Nat) : Int) by decide)⟩ ?_
  refine PW.nameE (fun E6 eE6 => ?_)
  replace h := h E6 eE6
  refine n_iinc (q := 41) (lv' := [(1, (0, 0 + 1)), (0, (2, 2))]) 25 0 rfl rfl (by decide) rfl ?_
  refine s_goto (tgt := 14) 26 rfl rfl ?_
  refine s_iload_n (q := 15) 8 0 rfl rfl ?_
  refine s_iconst (q := 16) 9 rfl ?_
  refine s_icmp_ge (q := 19) (tgt := 44) 10 rfl rfl (fun hb => absurd hb (by decide)) (fun _ => ?_)
  refine s_aload_n (q := 20) 11 1 rfl rfl ?_
  refine n_getf (q := 23) (jj := 0) 12 0 0 rfl kX0_11 (by rfl) ?_
  refine PW.top (b := 3) (by exact (congrFun (congrFun eF4 _) _).trans pUp_s) ?_
  refine s_iconst (q := 24) 13 rfl ?_
  refine s_iload_n (q := 25) 14 0 rfl rfl ?_
  refine n_iadd (q := 26) 15 rfl (by decide) ?_
  refine PW.top (b := 4) (by decide) ?_
  refine s_iconst (q := 27) 16 rfl ?_
  refine n_iast (q := 28) 17 rfl (by decide) (by rfl) ⟨by decide, (show 4 < ((117 : Nat) : Int) by decide)⟩ ?_
  refine PW.nameE (fun E7 eE7 => ?_)
  replace h := h E7 eE7
  refine s_aload_n (q := 29) 18 1 rfl rfl ?_
  refine n_getf (q := 32) (jj := 0) 19 0 0 rfl kX0_11 (by rfl) ?_
  refine PW.top (b := 3) (by exact (congrFun (congrFun eF4 _) _).trans pUp_s) ?_
  refine s_bipush (q := 34) 20 rfl ?_
  refine s_iload_n (q := 35) 21 0 rfl rfl ?_
  refine n_iadd (q := 36) 22 rfl (by decide) ?_
  refine PW.top (b := 7) (by decide) ?_
  refine s_iconst (q := 37) 23 rfl ?_
  refine n_iast (q := 38) 24 rfl (by decide) (by rfl) ⟨by decide, (show 7 < ((117 : Nat) : Int) by decide)⟩ ?_
  refine PW.nameE (fun E8 eE8 => ?_)
  replace h := h E8 eE8
  refine n_iinc (q := 41) (lv' := [(1, (0, 0 + 1 + 1)), (0, (2, 2))]) 25 0 rfl rfl (by decide) rfl ?_
  refine s_goto (tgt := 14) 26 rfl rfl ?_
  refine s_iload_n (q := 15) 8 0 rfl rfl ?_
  refine s_iconst (q := 16) 9 rfl ?_
  refine s_icmp_ge (q := 19) (tgt := 44) 10 rfl rfl (fun hb => absurd hb (by decide)) (fun _ => ?_)
  refine s_aload_n (q := 20) 11 1 rfl rfl ?_
  refine n_getf (q := 23) (jj := 0) 12 0 0 rfl kX0_11 (by rfl) ?_
  refine PW.top (b := 3) (by exact (congrFun (congrFun eF4 _) _).trans pUp_s) ?_
  refine s_iconst (q := 24) 13 rfl ?_
  refine s_iload_n (q := 25) 14 0 rfl rfl ?_
  refine n_iadd (q := 26) 15 rfl (by decide) ?_
  refine PW.top (b := 5) (by decide) ?_
  refine s_iconst (q := 27) 16 rfl ?_
  refine n_iast (q := 28) 17 rfl (by decide) (by rfl) ⟨by decide, (show 5 < ((117 : Nat) : Int) by decide)⟩ ?_
  refine PW.nameE (fun E9 eE9 => ?_)
  replace h := h E9 eE9
  refine s_aload_n (q := 29) 18 1 rfl rfl ?_
  refine n_getf (q := 32) (jj := 0) 19 0 0 rfl kX0_11 (by rfl) ?_
  refine PW.top (b := 3) (by exact (congrFun (congrFun eF4 _) _).trans pUp_s) ?_
  refine s_bipush (q := 34) 20 rfl ?_
  refine s_iload_n (q := 35) 21 0 rfl rfl ?_
  refine n_iadd (q := 36) 22 rfl (by decide) ?_
  refine PW.top (b := 8) (by decide) ?_
  refine s_iconst (q := 37) 23 rfl ?_
  refine n_iast (q := 38) 24 rfl (by decide) (by rfl) ⟨by decide, (show 8 < ((117 : Nat) : Int) by decide)⟩ ?_
  refine PW.nameE (fun E10 eE10 => ?_)
  replace h := h E10 eE10
  refine n_iinc (q := 41) (lv' := [(1, (0, 0 + 1 + 1 + 1)), (0, (2, 2))]) 25 0 rfl rfl (by decide) rfl ?_
  refine s_goto (tgt := 14) 26 rfl rfl ?_
  refine s_iload_n (q := 15) 8 0 rfl rfl ?_
  refine s_iconst (q := 16) 9 rfl ?_
  refine s_icmp_ge (q := 19) (tgt := 44) 10 rfl rfl (fun _ => ?_) (fun hb => absurd (by decide) hb)
  refine s_vret 27 rfl rfl ?_
  show PW l G 1 mX1_init (4, 21) 12 [(0, (2, 1))] [(2, 2), (2, 1)] (4, pKt K 4, F4, E10) _
  refine n_putf (q := 15) (jj := 0) 6 1 0 rfl kX1_12 (by rfl) (Or.inr (Or.inr (Or.inr (Or.inl ⟨_, rfl⟩)))) ?_
  refine PW.nameF (fun F11 eF11 => ?_)
  replace h := h F11 eF11
  refine s_aload_n (q := 16) 7 0 rfl rfl ?_
  refine s_iconst (q := 17) 8 rfl ?_
  refine n_newa (q := 19) (a := 4) (n' := 5) (z := 3) 9 0 3 18 rfl (by decide) kar_int (by decide) (by decide) ?_
  refine PW.nameE (fun E12 eE12 => ?_)
  replace h := h E12 eE12
  refine s_dup (q := 20) 10 rfl ?_
  refine s_iconst (q := 21) 11 rfl ?_
  refine s_sipush (q := 24) 12 rfl ?_
  refine n_iast (q := 25) 13 rfl (by decide) (by rfl) ⟨by decide, (show 0 < ((3 : Nat) : Int) by decide)⟩ ?_
  refine PW.nameE (fun E13 eE13 => ?_)
  replace h := h E13 eE13
  refine s_dup (q := 26) 14 rfl ?_
  refine s_iconst (q := 27) 15 rfl ?_
  refine s_iconst (q := 28) 16 rfl ?_
  refine n_iast (q := 29) 17 rfl (by decide) (by rfl) ⟨by decide, (show 1 < ((3 : Nat) : Int) by decide)⟩ ?_
  refine PW.nameE (fun E14 eE14 => ?_)
  replace h := h E14 eE14
  refine s_dup (q := 30) 18 rfl ?_
  refine s_iconst (q := 31) 19 rfl ?_
  refine s_iconst (q := 32) 20 rfl ?_
  refine n_iast (q := 33) 21 rfl (by decide) (by rfl) ⟨by decide, (show 2 < ((3 : Nat) : Int) by decide)⟩ ?_
  refine PW.nameE (fun E15 eE15 => ?_)
  replace h := h E15 eE15
  refine n_putf (q := 36) (jj := 1) 22 1 1 rfl kX1_18 (by rfl) (Or.inr (Or.inr (Or.inr (Or.inr ⟨_, rfl⟩)))) ?_
  refine PW.nameF (fun F16 eF16 => ?_)
  replace h := h F16 eF16
  refine s_aload_n (q := 37) 23 0 rfl rfl ?_
  refine s_bipush (q := 39) 24 rfl ?_
  refine n_newa (q := 41) (a := 5) (n' := 6) (z := 6) 25 0 2 12 rfl (by decide) kar_int (by decide) (by decide) ?_
  refine PW.nameE (fun E17 eE17 => ?_)
  replace h := h E17 eE17
  refine n_putf (q := 44) (jj := 2) 26 1 2 rfl kX1_22 (by rfl) (Or.inr (Or.inr (Or.inr (Or.inr ⟨_, rfl⟩)))) ?_
  refine PW.nameF (fun F18 eF18 => ?_)
  replace h := h F18 eF18
  refine s_aload_n (q := 45) 27 0 rfl rfl ?_
  refine s_bipush (q := 47) 28 rfl ?_
  refine n_newa (q := 49) (a := 6) (n' := 7) (z := 6) 29 0 1 6 rfl (by decide) kar_int (by decide) (by decide) ?_
  refine PW.nameE (fun E19 eE19 => ?_)
  replace h := h E19 eE19
  refine n_putf (q := 52) (jj := 3) 30 1 3 rfl kX1_25 (by rfl) (Or.inr (Or.inr (Or.inr (Or.inr ⟨_, rfl⟩)))) ?_
  refine PW.nameF (fun F20 eF20 => ?_)
  replace h := h F20 eF20
  refine s_aload_n (q := 53) 31 0 rfl rfl ?_
  refine s_iconst (q := 54) 32 rfl ?_
  refine n_putf (q := 57) (jj := 4) 33 1 4 rfl kX1_28 (by rfl) (Or.inl rfl) ?_
  refine PW.nameF (fun F21 eF21 => ?_)
  replace h := h F21 eF21
  refine s_aload_n (q := 58) 34 0 rfl rfl ?_
  refine s_bipush (q := 60) 35 rfl ?_
  refine n_newq (q := 63) (a := 7) (n' := 8) (z := 6) 36 5 0 0 rfl (by decide) kX1_32 kao_Text (by decide) (by decide) ?_
  refine PW.nameE (fun E22 eE22 => ?_)
  replace h := h E22 eE22
  refine n_putf (q := 66) (jj := 5) 37 1 5 rfl kX1_34 (by rfl) (Or.inr (Or.inr (Or.inr (Or.inr ⟨_, rfl⟩)))) ?_
  refine PW.nameF (fun F23 eF23 => ?_)
  replace h := h F23 eF23
  refine s_aload_n (q := 67) 38 0 rfl rfl ?_
  refine s_iconst (q := 68) 39 rfl ?_
  refine n_putf (q := 71) (jj := 6) 40 1 6 rfl kX1_38 (by rfl) (Or.inl rfl) ?_
  refine PW.nameF (fun F24 eF24 => ?_)
  replace h := h F24 eF24
  refine s_aload_n (q := 72) 41 0 rfl rfl ?_
  refine s_iconst (q := 73) 42 rfl ?_
  refine n_putf (q := 76) (jj := 7) 43 1 7 rfl kX1_41 (by rfl) (Or.inl rfl) ?_
  refine PW.nameF (fun F25 eF25 => ?_)
  replace h := h F25 eF25
  refine s_vret 44 rfl rfl ?_
  show PW l G 3 mX11_init (58, 7932) 12 [(0, (2, 0))] [(2, 1), (2, 0)] (8, pKt K 8, F25, E22) Q
  refine n_putf (q := 15) (jj := 0) 6 11 0 rfl kX11_10 (by rfl) (Or.inr (Or.inr (Or.inr (Or.inl ⟨_, rfl⟩)))) ?_
  refine PW.nameF (fun F26 eF26 => ?_)
  replace h := h F26 eF26
  refine s_aload_n (q := 16) 7 0 rfl rfl ?_
  refine s_iconst (q := 17) 8 rfl ?_
  refine n_newq (q := 20) (a := 8) (n' := 9) (z := 2) 9 4 57 7930 rfl (by decide) kX11_7 kao_Kept (by decide) (by decide) ?_
  refine PW.nameE (fun E27 eE27 => ?_)
  replace h := h E27 eE27
  refine n_putf (q := 23) (jj := 1) 10 11 1 rfl kX11_16 (by rfl) (Or.inr (Or.inr (Or.inr (Or.inr ⟨_, rfl⟩)))) ?_
  refine PW.nameF (fun F28 eF28 => ?_)
  replace h := h F28 eF28
  refine s_aload_n (q := 24) 11 0 rfl rfl ?_
  refine s_iconst (q := 25) 12 rfl ?_
  refine n_newa (q := 27) (a := 9) (n' := 10) (z := 2) 13 3 56 7928 rfl (by decide) kar_boolean (by decide) (by decide) ?_
  refine PW.nameE (fun E29 eE29 => ?_)
  replace h := h E29 eE29
  refine n_putf (q := 30) (jj := 2) 14 11 2 rfl kX11_20 (by rfl) (Or.inr (Or.inr (Or.inr (Or.inr ⟨_, rfl⟩)))) ?_
  refine PW.nameF (fun F30 eF30 => ?_)
  replace h := h F30 eF30
  refine s_aload_n (q := 31) 15 0 rfl rfl ?_
  refine n_new (q := 34) (a := 10) (n' := 11) 16 3 55 7924 rfl (by decide) kX11_24 kin_3.1 kin_3.2 (by decide) ?_
  refine PW.nameF (fun F31 eF31 => ?_)
  replace h := h F31 eF31
  refine s_dup (q := 35) 17 rfl ?_
  refine s_callN (b' := (2, 1888)) (N := mX3_init) (as := []) (st := [(2, 10), (2, 0)]) (q := 38) (d' := 0) 18 rfl uX3_init kX11_26 rfl (by decide) ?_
  show PW l G 0 mX3_init (2, 1888) 0 [(0, (2, 10))] [] (11, pKt K 11, F31, E29) _
  refine s_aload_n (q := 1) 0 0 rfl rfl ?_
  refine s_obj (q := 4) 1 rfl kX3_3 (by decide) ?_
  refine s_aload_n (q := 5) 2 0 rfl rfl ?_
  refine s_bipush (q := 7) 3 rfl ?_
  refine n_newa (q := 9) (a := 11) (n' := 12) (z := 16) 4 0 1 1872 rfl (by decide) kar_int (by decide) (by decide) ?_
  refine PW.nameE (fun E32 eE32 => ?_)
  replace h := h E32 eE32
  refine n_putf (q := 12) (jj := 0) 5 3 0 rfl kX3_9 (by rfl) (Or.inr (Or.inr (Or.inr (Or.inr ⟨_, rfl⟩)))) ?_
  refine PW.nameF (fun F33 eF33 => ?_)
  replace h := h F33 eF33
  refine s_aload_n (q := 13) 6 0 rfl rfl ?_
  refine s_sipush (q := 16) 7 rfl ?_
  refine n_newa (q := 18) (a := 12) (n' := 13) (z := 1872) 8 0 0 0 rfl (by decide) kar_int (by decide) (by decide) ?_
  refine PW.nameE (fun E34 eE34 => ?_)
  replace h := h E34 eE34
  refine n_putf (q := 21) (jj := 1) 9 3 1 rfl kX3_17 (by rfl) (Or.inr (Or.inr (Or.inr (Or.inr ⟨_, rfl⟩)))) ?_
  refine PW.nameF (fun F35 eF35 => ?_)
  replace h := h F35 eF35
  refine s_aload_n (q := 22) 10 0 rfl rfl ?_
  refine s_iconst (q := 23) 11 rfl ?_
  refine n_putf (q := 26) (jj := 2) 12 3 2 rfl kX3_20 (by rfl) (Or.inl rfl) ?_
  refine PW.nameF (fun F36 eF36 => ?_)
  replace h := h F36 eF36
  refine s_aload_n (q := 27) 13 0 rfl rfl ?_
  refine s_iconst (q := 28) 14 rfl ?_
  refine n_putf (q := 31) (jj := 3) 15 3 3 rfl kX3_24 (by rfl) (Or.inl rfl) ?_
  refine PW.nameF (fun F37 eF37 => ?_)
  replace h := h F37 eF37
  refine s_vret 16 rfl rfl ?_
  show PW l G 3 mX11_init (53, 6036) 38 [(0, (2, 0))] [(2, 10), (2, 0)] (13, pKt K 13, F37, E34) Q
  refine n_putf (q := 41) (jj := 3) 19 11 3 rfl kX11_27 (by rfl) (Or.inr (Or.inr (Or.inr (Or.inl ⟨_, rfl⟩)))) ?_
  refine PW.nameF (fun F38 eF38 => ?_)
  replace h := h F38 eF38
  refine s_aload_n (q := 42) 20 0 rfl rfl ?_
  refine n_new (q := 45) (a := 13) (n' := 14) 21 3 52 6032 rfl (by decide) kX11_24 kin_3.1 kin_3.2 (by decide) ?_
  refine PW.nameF (fun F39 eF39 => ?_)
  replace h := h F39 eF39
  refine s_dup (q := 46) 22 rfl ?_
  refine s_callN (b' := (2, 1888)) (N := mX3_init) (as := []) (st := [(2, 13), (2, 0)]) (q := 49) (d' := 0) 23 rfl uX3_init kX11_26 rfl (by decide) ?_
  show PW l G 0 mX3_init (2, 1888) 0 [(0, (2, 13))] [] (14, pKt K 14, F39, E34) _
  refine s_aload_n (q := 1) 0 0 rfl rfl ?_
  refine s_obj (q := 4) 1 rfl kX3_3 (by decide) ?_
  refine s_aload_n (q := 5) 2 0 rfl rfl ?_
  refine s_bipush (q := 7) 3 rfl ?_
  refine n_newa (q := 9) (a := 14) (n' := 15) (z := 16) 4 0 1 1872 rfl (by decide) kar_int (by decide) (by decide) ?_
  refine PW.nameE (fun E40 eE40 => ?_)
  replace h := h E40 eE40
  refine n_putf (q := 12) (jj := 0) 5 3 0 rfl kX3_9 (by rfl) (Or.inr (Or.inr (Or.inr (Or.inr ⟨_, rfl⟩)))) ?_
  refine PW.nameF (fun F41 eF41 => ?_)
  replace h := h F41 eF41
  refine s_aload_n (q := 13) 6 0 rfl rfl ?_
  refine s_sipush (q := 16) 7 rfl ?_
  refine n_newa (q := 18) (a := 15) (n' := 16) (z := 1872) 8 0 0 0 rfl (by decide) kar_int (by decide) (by decide) ?_
  refine PW.nameE (fun E42 eE42 => ?_)
  replace h := h E42 eE42
  refine n_putf (q := 21) (jj := 1) 9 3 1 rfl kX3_17 (by rfl) (Or.inr (Or.inr (Or.inr (Or.inr ⟨_, rfl⟩)))) ?_
  refine PW.nameF (fun F43 eF43 => ?_)
  replace h := h F43 eF43
  refine s_aload_n (q := 22) 10 0 rfl rfl ?_
  refine s_iconst (q := 23) 11 rfl ?_
  refine n_putf (q := 26) (jj := 2) 12 3 2 rfl kX3_20 (by rfl) (Or.inl rfl) ?_
  refine PW.nameF (fun F44 eF44 => ?_)
  replace h := h F44 eF44
  refine s_aload_n (q := 27) 13 0 rfl rfl ?_
  refine s_iconst (q := 28) 14 rfl ?_
  refine n_putf (q := 31) (jj := 3) 15 3 3 rfl kX3_24 (by rfl) (Or.inl rfl) ?_
  refine PW.nameF (fun F45 eF45 => ?_)
  replace h := h F45 eF45
  refine s_vret 16 rfl rfl ?_
  show PW l G 3 mX11_init (50, 4144) 49 [(0, (2, 0))] [(2, 13), (2, 0)] (16, pKt K 16, F45, E42) Q
  refine n_putf (q := 52) (jj := 4) 24 11 4 rfl kX11_31 (by rfl) (Or.inr (Or.inr (Or.inr (Or.inl ⟨_, rfl⟩)))) ?_
  refine PW.nameF (fun F46 eF46 => ?_)
  replace h := h F46 eF46
  refine s_aload_n (q := 53) 25 0 rfl rfl ?_
  refine n_new (q := 56) (a := 16) (n' := 17) 26 0 49 4143 rfl (by decide) kX11_34 kin_0.1 kin_0.2 (by decide) ?_
  refine PW.nameF (fun F47 eF47 => ?_)
  replace h := h F47 eF47
  refine s_dup (q := 57) 27 rfl ?_
  refine s_callI (b' := (1, 117)) (N := mX0_init) (as := []) (st := [(2, 16), (2, 0)]) (q := 60) (d' := 0) 28 rfl uX0_init kX11_36 rfl (by decide) ?_
  show PW l G 0 mX0_init (1, 117) 0 [(0, (2, 16))] [] (17, pKt K 17, F47, E42) _
  refine s_aload_n (q := 1) 0 0 rfl rfl ?_
  refine s_obj (q := 4) 1 rfl kX0_3 (by decide) ?_
  refine s_aload_n (q := 5) 2 0 rfl rfl ?_
  refine s_bipush (q := 7) 3 rfl ?_
  refine n_newa (q := 9) (a := 17) (n' := 18) (z := 117) 4 0 0 0 rfl (by decide) kar_int (by decide) (by decide) ?_
  refine PW.nameE (fun E48 eE48 => ?_)
  replace h := h E48 eE48
  refine n_putf (q := 12) (jj := 0) 5 0 0 rfl kX0_11 (by rfl) (Or.inr (Or.inr (Or.inr (Or.inr ⟨_, rfl⟩)))) ?_
  refine PW.nameF (fun F49 eF49 => ?_)
  replace h := h F49 eF49
  refine s_iconst (q := 13) 6 rfl ?_
  refine s_istore_n (q := 14) (lv' := [(1, (0, 0)), (0, (2, 16))]) 7 rfl rfl ?_
  refine s_iload_n (q := 15) 8 0 rfl rfl ?_
  refine s_iconst (q := 16) 9 rfl ?_
  refine s_icmp_ge (q := 19) (tgt := 44) 10 rfl rfl (fun hb => absurd hb (by decide)) (fun _ => ?_)
  refine s_aload_n (q := 20) 11 1 rfl rfl ?_
  refine n_getf (q := 23) (jj := 0) 12 0 0 rfl kX0_11 (by rfl) ?_
  refine PW.top (b := 17) (by exact (congrFun (congrFun eF49 _) _).trans pUp_s) ?_
  refine s_iconst (q := 24) 13 rfl ?_
  refine s_iload_n (q := 25) 14 0 rfl rfl ?_
  refine n_iadd (q := 26) 15 rfl (by decide) ?_
  refine PW.top (b := 3) (by decide) ?_
  refine s_iconst (q := 27) 16 rfl ?_
  refine n_iast (q := 28) 17 rfl (by decide) (by rfl) ⟨by decide, (show 3 < ((117 : Nat) : Int) by decide)⟩ ?_
  refine PW.nameE (fun E50 eE50 => ?_)
  replace h := h E50 eE50
  refine s_aload_n (q := 29) 18 1 rfl rfl ?_
  refine n_getf (q := 32) (jj := 0) 19 0 0 rfl kX0_11 (by rfl) ?_
  refine PW.top (b := 17) (by exact (congrFun (congrFun eF49 _) _).trans pUp_s) ?_
  refine s_bipush (q := 34) 20 rfl ?_
  refine s_iload_n (q := 35) 21 0 rfl rfl ?_
  refine n_iadd (q := 36) 22 rfl (by decide) ?_
  refine PW.top (b := 6) (by decide) ?_
  refine s_iconst (q := 37) 23 rfl ?_
  refine n_iast (q := 38) 24 rfl (by decide) (by rfl) ⟨by decide, (show 6 < ((117 : Nat) : Int) by decide)⟩ ?_
  refine PW.nameE (fun E51 eE51 => ?_)
  replace h := h E51 eE51
  refine n_iinc (q := 41) (lv' := [(1, (0, 0 + 1)), (0, (2, 16))]) 25 0 rfl rfl (by decide) rfl ?_
  refine s_goto (tgt := 14) 26 rfl rfl ?_
  refine s_iload_n (q := 15) 8 0 rfl rfl ?_
  refine s_iconst (q := 16) 9 rfl ?_
  refine s_icmp_ge (q := 19) (tgt := 44) 10 rfl rfl (fun hb => absurd hb (by decide)) (fun _ => ?_)
  refine s_aload_n (q := 20) 11 1 rfl rfl ?_
  refine n_getf (q := 23) (jj := 0) 12 0 0 rfl kX0_11 (by rfl) ?_
  refine PW.top (b := 17) (by exact (congrFun (congrFun eF49 _) _).trans pUp_s) ?_
  refine s_iconst (q := 24) 13 rfl ?_
  refine s_iload_n (q := 25) 14 0 rfl rfl ?_
  refine n_iadd (q := 26) 15 rfl (by decide) ?_
  refine PW.top (b := 4) (by decide) ?_
  refine s_iconst (q := 27) 16 rfl ?_
  refine n_iast (q := 28) 17 rfl (by decide) (by rfl) ⟨by decide, (show 4 < ((117 : Nat) : Int) by decide)⟩ ?_
  refine PW.nameE (fun E52 eE52 => ?_)
  replace h := h E52 eE52
  refine s_aload_n (q := 29) 18 1 rfl rfl ?_
  refine n_getf (q := 32) (jj := 0) 19 0 0 rfl kX0_11 (by rfl) ?_
  refine PW.top (b := 17) (by exact (congrFun (congrFun eF49 _) _).trans pUp_s) ?_
  refine s_bipush (q := 34) 20 rfl ?_
  refine s_iload_n (q := 35) 21 0 rfl rfl ?_
  refine n_iadd (q := 36) 22 rfl (by decide) ?_
  refine PW.top (b := 7) (by decide) ?_
  refine s_iconst (q := 37) 23 rfl ?_
  refine n_iast (q := 38) 24 rfl (by decide) (by rfl) ⟨by decide, (show 7 < ((117 : Nat) : Int) by decide)⟩ ?_
  refine PW.nameE (fun E53 eE53 => ?_)
  replace h := h E53 eE53
  refine n_iinc (q := 41) (lv' := [(1, (0, 0 + 1 + 1)), (0, (2, 16))]) 25 0 rfl rfl (by decide) rfl ?_
  refine s_goto (tgt := 14) 26 rfl rfl ?_
  refine s_iload_n (q := 15) 8 0 rfl rfl ?_
  refine s_iconst (q := 16) 9 rfl ?_
  refine s_icmp_ge (q := 19) (tgt := 44) 10 rfl rfl (fun hb => absurd hb (by decide)) (fun _ => ?_)
  refine s_aload_n (q := 20) 11 1 rfl rfl ?_
  refine n_getf (q := 23) (jj := 0) 12 0 0 rfl kX0_11 (by rfl) ?_
  refine PW.top (b := 17) (by exact (congrFun (congrFun eF49 _) _).trans pUp_s) ?_
  refine s_iconst (q := 24) 13 rfl ?_
  refine s_iload_n (q := 25) 14 0 rfl rfl ?_
  refine n_iadd (q := 26) 15 rfl (by decide) ?_
  refine PW.top (b := 5) (by decide) ?_
  refine s_iconst (q := 27) 16 rfl ?_
  refine n_iast (q := 28) 17 rfl (by decide) (by rfl) ⟨by decide, (show 5 < ((117 : Nat) : Int) by decide)⟩ ?_
  refine PW.nameE (fun E54 eE54 => ?_)
  replace h := h E54 eE54
  refine s_aload_n (q := 29) 18 1 rfl rfl ?_
  refine n_getf (q := 32) (jj := 0) 19 0 0 rfl kX0_11 (by rfl) ?_
  refine PW.top (b := 17) (by exact (congrFun (congrFun eF49 _) _).trans pUp_s) ?_
  refine s_bipush (q := 34) 20 rfl ?_
  refine s_iload_n (q := 35) 21 0 rfl rfl ?_
  refine n_iadd (q := 36) 22 rfl (by decide) ?_
  refine PW.top (b := 8) (by decide) ?_
  refine s_iconst (q := 37) 23 rfl ?_
  refine n_iast (q := 38) 24 rfl (by decide) (by rfl) ⟨by decide, (show 8 < ((117 : Nat) : Int) by decide)⟩ ?_
  refine PW.nameE (fun E55 eE55 => ?_)
  replace h := h E55 eE55
  refine n_iinc (q := 41) (lv' := [(1, (0, 0 + 1 + 1 + 1)), (0, (2, 16))]) 25 0 rfl rfl (by decide) rfl ?_
  refine s_goto (tgt := 14) 26 rfl rfl ?_
  refine s_iload_n (q := 15) 8 0 rfl rfl ?_
  refine s_iconst (q := 16) 9 rfl ?_
  refine s_icmp_ge (q := 19) (tgt := 44) 10 rfl rfl (fun _ => ?_) (fun hb => absurd (by decide) hb)
  refine s_vret 27 rfl rfl ?_
  show PW l G 3 mX11_init (48, 4026) 60 [(0, (2, 0))] [(2, 16), (2, 0)] (18, pKt K 18, F49, E55) Q
  refine n_putf (q := 63) (jj := 5) 29 11 5 rfl kX11_37 (by rfl) (Or.inr (Or.inr (Or.inr (Or.inl ⟨_, rfl⟩)))) ?_
  refine PW.nameF (fun F56 eF56 => ?_)
  replace h := h F56 eF56
  refine s_aload_n (q := 64) 30 0 rfl rfl ?_
  refine n_new (q := 67) (a := 18) (n' := 19) 31 0 47 4025 rfl (by decide) kX11_34 kin_0.1 kin_0.2 (by decide) ?_
  refine PW.nameF (fun F57 eF57 => ?_)
  replace h := h F57 eF57
  refine s_dup (q := 68) 32 rfl ?_
  refine s_callI (b' := (1, 117)) (N := mX0_init) (as := []) (st := [(2, 18), (2, 0)]) (q := 71) (d' := 0) 33 rfl uX0_init kX11_36 rfl (by decide) ?_
  show PW l G 0 mX0_init (1, 117) 0 [(0, (2, 18))] [] (19, pKt K 19, F57, E55) _
  refine s_aload_n (q := 1) 0 0 rfl rfl ?_
  refine s_obj (q := 4) 1 rfl kX0_3 (by decide) ?_
  refine s_aload_n (q := 5) 2 0 rfl rfl ?_
  refine s_bipush (q := 7) 3 rfl ?_
  refine n_newa (q := 9) (a := 19) (n' := 20) (z := 117) 4 0 0 0 rfl (by decide) kar_int (by decide) (by decide) ?_
  refine PW.nameE (fun E58 eE58 => ?_)
  replace h := h E58 eE58
  refine n_putf (q := 12) (jj := 0) 5 0 0 rfl kX0_11 (by rfl) (Or.inr (Or.inr (Or.inr (Or.inr ⟨_, rfl⟩)))) ?_
  refine PW.nameF (fun F59 eF59 => ?_)
  replace h := h F59 eF59
  refine s_iconst (q := 13) 6 rfl ?_
  refine s_istore_n (q := 14) (lv' := [(1, (0, 0)), (0, (2, 18))]) 7 rfl rfl ?_
  refine s_iload_n (q := 15) 8 0 rfl rfl ?_
  refine s_iconst (q := 16) 9 rfl ?_
  refine s_icmp_ge (q := 19) (tgt := 44) 10 rfl rfl (fun hb => absurd hb (by decide)) (fun _ => ?_)
  refine s_aload_n (q := 20) 11 1 rfl rfl ?_
  refine n_getf (q := 23) (jj := 0) 12 0 0 rfl kX0_11 (by rfl) ?_
  refine PW.top (b := 19) (by exact (congrFun (congrFun eF59 _) _).trans pUp_s) ?_
  refine s_iconst (q := 24) 13 rfl ?_
  refine s_iload_n (q := 25) 14 0 rfl rfl ?_
  refine n_iadd (q := 26) 15 rfl (by decide) ?_
  refine PW.top (b := 3) (by decide) ?_
  refine s_iconst (q := 27) 16 rfl ?_
  refine n_iast (q := 28) 17 rfl (by decide) (by rfl) ⟨by decide, (show 3 < ((117 : Nat) : Int) by decide)⟩ ?_
  refine PW.nameE (fun E60 eE60 => ?_)
  replace h := h E60 eE60
  refine s_aload_n (q := 29) 18 1 rfl rfl ?_
  refine n_getf (q := 32) (jj := 0) 19 0 0 rfl kX0_11 (by rfl) ?_
  refine PW.top (b := 19) (by exact (congrFun (congrFun eF59 _) _).trans pUp_s) ?_
  refine s_bipush (q := 34) 20 rfl ?_
  refine s_iload_n (q := 35) 21 0 rfl rfl ?_
  refine n_iadd (q := 36) 22 rfl (by decide) ?_
  refine PW.top (b := 6) (by decide) ?_
  refine s_iconst (q := 37) 23 rfl ?_
  refine n_iast (q := 38) 24 rfl (by decide) (by rfl) ⟨by decide, (show 6 < ((117 : Nat) : Int) by decide)⟩ ?_
  refine PW.nameE (fun E61 eE61 => ?_)
  replace h := h E61 eE61
  refine n_iinc (q := 41) (lv' := [(1, (0, 0 + 1)), (0, (2, 18))]) 25 0 rfl rfl (by decide) rfl ?_
  refine s_goto (tgt := 14) 26 rfl rfl ?_
  refine s_iload_n (q := 15) 8 0 rfl rfl ?_
  refine s_iconst (q := 16) 9 rfl ?_
  refine s_icmp_ge (q := 19) (tgt := 44) 10 rfl rfl (fun hb => absurd hb (by decide)) (fun _ => ?_)
  refine s_aload_n (q := 20) 11 1 rfl rfl ?_
  refine n_getf (q := 23) (jj := 0) 12 0 0 rfl kX0_11 (by rfl) ?_
  refine PW.top (b := 19) (by exact (congrFun (congrFun eF59 _) _).trans pUp_s) ?_
  refine s_iconst (q := 24) 13 rfl ?_
  refine s_iload_n (q := 25) 14 0 rfl rfl ?_
  refine n_iadd (q := 26) 15 rfl (by decide) ?_
  refine PW.top (b := 4) (by decide) ?_
  refine s_iconst (q := 27) 16 rfl ?_
  refine n_iast (q := 28) 17 rfl (by decide) (by rfl) ⟨by decide, (show 4 < ((117 : Nat) : Int) by decide)⟩ ?_
  refine PW.nameE (fun E62 eE62 => ?_)
  replace h := h E62 eE62
  refine s_aload_n (q := 29) 18 1 rfl rfl ?_
  refine n_getf (q := 32) (jj := 0) 19 0 0 rfl kX0_11 (by rfl) ?_
  refine PW.top (b := 19) (by exact (congrFun (congrFun eF59 _) _).trans pUp_s) ?_
  refine s_bipush (q := 34) 20 rfl ?_
  refine s_iload_n (q := 35) 21 0 rfl rfl ?_
  refine n_iadd (q := 36) 22 rfl (by decide) ?_
  refine PW.top (b := 7) (by decide) ?_
  refine s_iconst (q := 37) 23 rfl ?_
  refine n_iast (q := 38) 24 rfl (by decide) (by rfl) ⟨by decide, (show 7 < ((117 : Nat) : Int) by decide)⟩ ?_
  refine PW.nameE (fun E63 eE63 => ?_)
  replace h := h E63 eE63
  refine n_iinc (q := 41) (lv' := [(1, (0, 0 + 1 + 1)), (0, (2, 18))]) 25 0 rfl rfl (by decide) rfl ?_
  refine s_goto (tgt := 14) 26 rfl rfl ?_
  refine s_iload_n (q := 15) 8 0 rfl rfl ?_
  refine s_iconst (q := 16) 9 rfl ?_
  refine s_icmp_ge (q := 19) (tgt := 44) 10 rfl rfl (fun hb => absurd hb (by decide)) (fun _ => ?_)
  refine s_aload_n (q := 20) 11 1 rfl rfl ?_
  refine n_getf (q := 23) (jj := 0) 12 0 0 rfl kX0_11 (by rfl) ?_
  refine PW.top (b := 19) (by exact (congrFun (congrFun eF59 _) _).trans pUp_s) ?_
  refine s_iconst (q := 24) 13 rfl ?_
  refine s_iload_n (q := 25) 14 0 rfl rfl ?_
  refine n_iadd (q := 26) 15 rfl (by decide) ?_
  refine PW.top (b := 5) (by decide) ?_
  refine s_iconst (q := 27) 16 rfl ?_
  refine n_iast (q := 28) 17 rfl (by decide) (by rfl) ⟨by decide, (show 5 < ((117 : Nat) : Int) by decide)⟩ ?_
  refine PW.nameE (fun E64 eE64 => ?_)
  replace h := h E64 eE64
  refine s_aload_n (q := 29) 18 1 rfl rfl ?_
  refine n_getf (q := 32) (jj := 0) 19 0 0 rfl kX0_11 (by rfl) ?_
  refine PW.top (b := 19) (by exact (congrFun (congrFun eF59 _) _).trans pUp_s) ?_
  refine s_bipush (q := 34) 20 rfl ?_
  refine s_iload_n (q := 35) 21 0 rfl rfl ?_
  refine n_iadd (q := 36) 22 rfl (by decide) ?_
  refine PW.top (b := 8) (by decide) ?_
  refine s_iconst (q := 37) 23 rfl ?_
  refine n_iast (q := 38) 24 rfl (by decide) (by rfl) ⟨by decide, (show 8 < ((117 : Nat) : Int) by decide)⟩ ?_
  refine PW.nameE (fun E65 eE65 => ?_)
  replace h := h E65 eE65
  refine n_iinc (q := 41) (lv' := [(1, (0, 0 + 1 + 1 + 1)), (0, (2, 18))]) 25 0 rfl rfl (by decide) rfl ?_
  refine s_goto (tgt := 14) 26 rfl rfl ?_
  refine s_iload_n (q := 15) 8 0 rfl rfl ?_
  refine s_iconst (q := 16) 9 rfl ?_
  refine s_icmp_ge (q := 19) (tgt := 44) 10 rfl rfl (fun _ => ?_) (fun hb => absurd (by decide) hb)
  refine s_vret 27 rfl rfl ?_
  show PW l G 3 mX11_init (46, 3908) 71 [(0, (2, 0))] [(2, 18), (2, 0)] (20, pKt K 20, F59, E65) Q
  refine n_putf (q := 74) (jj := 6) 34 11 6 rfl kX11_41 (by rfl) (Or.inr (Or.inr (Or.inr (Or.inl ⟨_, rfl⟩)))) ?_
  refine PW.nameF (fun F66 eF66 => ?_)
  replace h := h F66 eF66
  refine s_aload_n (q := 75) 35 0 rfl rfl ?_
  refine s_iconst (q := 76) 36 rfl ?_
  refine n_putf (q := 79) (jj := 7) 37 11 7 rfl kX11_44 (by rfl) (Or.inr (Or.inr (Or.inl ⟨rfl, (by decide)⟩))) ?_
  refine PW.nameF (fun F67 eF67 => ?_)
  replace h := h F67 eF67
  refine s_aload_n (q := 80) 38 0 rfl rfl ?_
  refine n_new (q := 83) (a := 20) (n' := 21) 39 5 45 3903 rfl (by decide) kX11_48 kin_5.1 kin_5.2 (by decide) ?_
  refine PW.nameF (fun F68 eF68 => ?_)
  replace h := h F68 eF68
  refine s_dup (q := 84) 40 rfl ?_
  refine s_callN (b' := (9, 2485)) (N := mX5_init) (as := []) (st := [(2, 20), (2, 0)]) (q := 87) (d' := 2) 41 rfl uX5_init kX11_50 rfl (by decide) ?_
  show PW l G 2 mX5_init (9, 2485) 0 [(0, (2, 20))] [] (21, pKt K 21, F68, E65) _
  refine s_aload_n (q := 1) 0 0 rfl rfl ?_
  refine s_obj (q := 4) 1 rfl kX5_3 (by decide) ?_
  refine s_aload_n (q := 5) 2 0 rfl rfl ?_
  refine n_new (q := 8) (a := 21) (n' := 22) 3 10 8 2481 rfl (by decide) kX5_9 kin_10.1 kin_10.2 (by decide) ?_
  refine PW.nameF (fun F69 eF69 => ?_)
  replace h := h F69 eF69
  refine s_dup (q := 9) 4 rfl ?_
  refine s_callN (b' := (5, 1605)) (N := mX10_init) (as := []) (st := [(2, 21), (2, 20)]) (q := 12) (d' := 1) 5 rfl uX10_init kX5_11 rfl (by decide) ?_
  show PW l G 1 mX10_init (5, 1605) 0 [(0, (2, 21))] [] (22, pKt K 22, F69, E65) _
  refine s_aload_n (q := 1) 0 0 rfl rfl ?_
  refine s_obj (q := 4) 1 rfl kX10_3 (by decide) ?_
  refine s_aload_n (q := 5) 2 0 rfl rfl ?_
  refine n_new (q := 8) (a := 22) (n' := 23) 3 8 4 1603 rfl (by decide) kX10_9 kin_8.1 kin_8.2 (by decide) ?_
  refine PW.nameF (fun F70 eF70 => ?_)
  replace h := h F70 eF70
  refine s_dup (q := 9) 4 rfl ?_
  refine s_callN (b' := (1, 400)) (N := mX8_init) (as := []) (st := [(2, 22), (2, 21)]) (q := 12) (d' := 0) 5 rfl uX8_init kX10_11 rfl (by decide) ?_
  show PW l G 0 mX8_init (1, 400) 0 [(0, (2, 22))] [] (23, pKt K 23, F70, E65) _
  refine s_aload_n (q := 1) 0 0 rfl rfl ?_
  refine s_obj (q := 4) 1 rfl kX8_3 (by decide) ?_
  refine s_aload_n (q := 5) 2 0 rfl rfl ?_
  refine s_sipush (q := 8) 3 rfl ?_
  refine n_newa (q := 10) (a := 23) (n' := 24) (z := 400) 4 2 0 0 rfl (by decide) kar_byte (by decide) (by decide) ?_
  refine PW.nameE (fun E71 eE71 => ?_)
  replace h := h E71 eE71
  refine n_putf (q := 13) (jj := 0) 5 8 0 rfl kX8_9 (by rfl) (Or.inr (Or.inr (Or.inr (Or.inr ⟨_, rfl⟩)))) ?_
  refine PW.nameF (fun F72 eF72 => ?_)
  replace h := h F72 eF72
  refine s_aload_n (q := 14) 6 0 rfl rfl ?_
  refine s_iconst (q := 15) 7 rfl ?_
  refine n_putf (q := 18) (jj := 1) 8 8 1 rfl kX8_15 (by rfl) (Or.inl rfl) ?_
  refine PW.nameF (fun F73 eF73 => ?_)
  replace h := h F73 eF73
  refine s_vret 9 rfl rfl ?_
  show PW l G 1 mX10_init (3, 1203) 12 [(0, (2, 21))] [(2, 22), (2, 21)] (24, pKt K 24, F73, E71) _
  refine n_putf (q := 15) (jj := 0) 6 10 0 rfl kX10_12 (by rfl) (Or.inr (Or.inr (Or.inr (Or.inl ⟨_, rfl⟩)))) ?_
  refine PW.nameF (fun F74 eF74 => ?_)
  replace h := h F74 eF74
  refine s_aload_n (q := 16) 7 0 rfl rfl ?_
  refine s_sipush (q := 19) 8 rfl ?_
  refine n_newa (q := 21) (a := 24) (n' := 25) (z := 401) 9 0 2 802 rfl (by decide) kar_int (by decide) (by decide) ?_
  refine PW.nameE (fun E75 eE75 => ?_)
  replace h := h E75 eE75
  refine n_putf (q := 24) (jj := 1) 10 10 1 rfl kX10_18 (by rfl) (Or.inr (Or.inr (Or.inr (Or.inr ⟨_, rfl⟩)))) ?_
  refine PW.nameF (fun F76 eF76 => ?_)
  replace h := h F76 eF76
  refine s_aload_n (q := 25) 11 0 rfl rfl ?_
  refine s_sipush (q := 28) 12 rfl ?_
  refine n_newa (q := 30) (a := 25) (n' := 26) (z := 401) 13 0 1 401 rfl (by decide) kar_int (by decide) (by decide) ?_
  refine PW.nameE (fun E77 eE77 => ?_)
  replace h := h E77 eE77
  refine n_putf (q := 33) (jj := 2) 14 10 2 rfl kX10_22 (by rfl) (Or.inr (Or.inr (Or.inr (Or.inr ⟨_, rfl⟩)))) ?_
  refine PW.nameF (fun F78 eF78 => ?_)
  replace h := h F78 eF78
  refine s_aload_n (q := 34) 15 0 rfl rfl ?_
  refine s_sipush (q := 37) 16 rfl ?_
  refine n_newa (q := 39) (a := 26) (n' := 27) (z := 401) 17 0 0 0 rfl (by decide) kar_int (by decide) (by decide) ?_
  refine PW.nameE (fun E79 eE79 => ?_)
  replace h := h E79 eE79
  refine n_putf (q := 42) (jj := 3) 18 10 3 rfl kX10_25 (by rfl) (Or.inr (Or.inr (Or.inr (Or.inr ⟨_, rfl⟩)))) ?_
  refine PW.nameF (fun F80 eF80 => ?_)
  replace h := h F80 eF80
  refine s_vret 19 rfl rfl ?_
  show PW l G 2 mX5_init (3, 876) 12 [(0, (2, 20))] [(2, 21), (2, 20)] (27, pKt K 27, F80, E79) _
  refine n_putf (q := 15) (jj := 0) 6 5 0 rfl kX5_12 (by rfl) (Or.inr (Or.inr (Or.inr (Or.inl ⟨_, rfl⟩)))) ?_
  refine PW.nameF (fun F81 eF81 => ?_)
  replace h := h F81 eF81
  refine s_aload_n (q := 16) 7 0 rfl rfl ?_
  refine n_new (q := 19) (a := 27) (n' := 28) 8 9 2 872 rfl (by decide) kX5_18 kin_9.1 kin_9.2 (by decide) ?_
  refine PW.nameF (fun F82 eF82 => ?_)
  replace h := h F82 eF82
  refine s_dup (q := 20) 9 rfl ?_
  refine s_callI (b' := (2, 872)) (N := mX9_init) (as := []) (st := [(2, 27), (2, 20)]) (q := 23) (d' := 0) 10 rfl uX9_init kX5_20 rfl (by decide) ?_
  show PW l G 0 mX9_init (2, 872) 0 [(0, (2, 27))] [] (28, pKt K 28, F82, E79) _
  refine s_aload_n (q := 1) 0 0 rfl rfl ?_
  refine s_obj (q := 4) 1 rfl kX9_3 (by decide) ?_
  refine s_aload_n (q := 5) 2 0 rfl rfl ?_
  refine s_bipush (q := 7) 3 rfl ?_
  refine n_newa (q := 9) (a := 28) (n' := 29) (z := 72) 4 0 1 800 rfl (by decide) kar_int (by decide) (by decide) ?_
  refine PW.nameE (fun E83 eE83 => ?_)
  replace h := h E83 eE83
  refine n_putf (q := 12) (jj := 0) 5 9 0 rfl kX9_11 (by rfl) (Or.inr (Or.inr (Or.inr (Or.inr ⟨_, rfl⟩)))) ?_
  refine PW.nameF (fun F84 eF84 => ?_)
  replace h := h F84 eF84
  refine s_aload_n (q := 13) 6 0 rfl rfl ?_
  refine s_sipush (q := 16) 7 rfl ?_
  refine n_newa (q := 18) (a := 29) (n' := 30) (z := 800) 8 0 0 0 rfl (by decide) kar_int (by decide) (by decide) ?_
  refine PW.nameE (fun E85 eE85 => ?_)
  replace h := h E85 eE85
  refine n_putf (q := 21) (jj := 1) 9 9 1 rfl kX9_15 (by rfl) (Or.inr (Or.inr (Or.inr (Or.inr ⟨_, rfl⟩)))) ?_
  refine PW.nameF (fun F86 eF86 => ?_)
  replace h := h F86 eF86
  refine s_aload_n (q := 22) 10 0 rfl rfl ?_
  refine s_iconst (q := 23) 11 rfl ?_
  refine n_putf (q := 26) (jj := 2) 12 9 2 rfl kX9_18 (by rfl) (Or.inl rfl) ?_
  refine PW.nameF (fun F87 eF87 => ?_)
  replace h := h F87 eF87
  refine s_aload_n (q := 27) 13 0 rfl rfl ?_
  refine s_iconst (q := 28) 14 rfl ?_
  refine n_putf (q := 31) (jj := 3) 15 9 3 rfl kX9_22 (by rfl) (Or.inl rfl) ?_
  refine PW.nameF (fun F88 eF88 => ?_)
  replace h := h F88 eF88
  refine s_vret 16 rfl rfl ?_
  show PW l G 2 mX5_init (0, 0) 23 [(0, (2, 20))] [(2, 27), (2, 20)] (30, pKt K 30, F88, E85) _
  refine n_putf (q := 26) (jj := 1) 11 5 1 rfl kX5_21 (by rfl) (Or.inr (Or.inr (Or.inr (Or.inl ⟨_, rfl⟩)))) ?_
  refine PW.nameF (fun F89 eF89 => ?_)
  replace h := h F89 eF89
  refine s_aload_n (q := 27) 12 0 rfl rfl ?_
  refine s_iconst (q := 28) 13 rfl ?_
  refine n_putf (q := 31) (jj := 2) 14 5 2 rfl kX5_25 (by rfl) (Or.inr (Or.inr (Or.inl ⟨rfl, (by decide)⟩))) ?_
  refine PW.nameF (fun F90 eF90 => ?_)
  replace h := h F90 eF90
  refine s_aload_n (q := 32) 15 0 rfl rfl ?_
  refine s_iconst (q := 33) 16 rfl ?_
  refine n_putf (q := 36) (jj := 3) 17 5 3 rfl kX5_29 (by rfl) (Or.inl rfl) ?_
  refine PW.nameF (fun F91 eF91 => ?_)
  replace h := h F91 eF91
  refine s_aload_n (q := 37) 18 0 rfl rfl ?_
  refine s_iconst (q := 38) 19 rfl ?_
  refine n_putf (q := 41) (jj := 4) 20 5 4 rfl kX5_33 (by rfl) (Or.inl rfl) ?_
  refine PW.nameF (fun F92 eF92 => ?_)
  replace h := h F92 eF92
  refine s_vret 21 rfl rfl ?_
  show PW l G 3 mX11_init (36, 1418) 87 [(0, (2, 0))] [(2, 20), (2, 0)] (30, pKt K 30, F92, E85) Q
  refine n_putf (q := 90) (jj := 8) 42 11 8 rfl kX11_51 (by rfl) (Or.inr (Or.inr (Or.inr (Or.inl ⟨_, rfl⟩)))) ?_
  refine PW.nameF (fun F93 eF93 => ?_)
  replace h := h F93 eF93
  refine s_aload_n (q := 91) 43 0 rfl rfl ?_
  refine s_aload_n (q := 92) 44 0 rfl rfl ?_
  refine n_getf (q := 95) (jj := 8) 45 11 8 rfl kX11_51 (by rfl) ?_
  refine PW.top (b := 20) (by exact (congrFun (congrFun eF93 _) _).trans pUp_s) ?_
  refine n_getf (q := 98) (jj := 0) 46 5 0 rfl kX11_55 (by rfl) ?_
  refine PW.top (b := 21) (by refine (congrFun (congrFun eF93 _) _).trans ((pUp_a (by decide)).trans ?_); refine (congrFun (congrFun eF92 _) _).trans ((pUp_k (by decide)).trans ?_); refine (congrFun (congrFun eF91 _) _).trans ((pUp_k (by decide)).trans ?_); refine (congrFun (congrFun eF90 _) _).trans ((pUp_k (by decide)).trans ?_); refine (congrFun (congrFun eF89 _) _).trans ((pUp_k (by decide)).trans ?_); refine (congrFun (congrFun eF88 _) _).trans ((pUp_a (by decide)).trans ?_); refine (congrFun (congrFun eF87 _) _).trans ((pUp_a (by decide)).trans ?_); refine (congrFun (congrFun eF86 _) _).trans ((pUp_a (by decide)).trans ?_); refine (congrFun (congrFun eF84 _) _).trans ((pUp_a (by decide)).trans ?_); refine (congrFun (congrFun eF82 _) _).trans ((congrFun (pRow_ne (by decide)) _).trans ?_); exact (congrFun (congrFun eF81 _) _).trans pUp_s) ?_
  refine n_getf (q := 101) (jj := 0) 47 10 0 rfl kX11_59 (by rfl) ?_
  refine PW.top (b := 22) (by refine (congrFun (congrFun eF93 _) _).trans ((pUp_a (by decide)).trans ?_); refine (congrFun (congrFun eF92 _) _).trans ((pUp_a (by decide)).trans ?_); refine (congrFun (congrFun eF91 _) _).trans ((pUp_a (by decide)).trans ?_); refine (congrFun (congrFun eF90 _) _).trans ((pUp_a (by decide)).trans ?_); refine (congrFun (congrFun eF89 _) _).trans ((pUp_a (by decide)).trans ?_); refine (congrFun (congrFun eF88 _) _).trans ((pUp_a (by decide)).trans ?_); refine (congrFun (congrFun eF87 _) _).trans ((pUp_a (by decide)).trans ?_); refine (congrFun (congrFun eF86 _) _).trans ((pUp_a (by decide)).trans ?_); refine (congrFun (congrFun eF84 _) _).trans ((pUp_a (by decide)).trans ?_); refine (congrFun (congrFun eF82 _) _).trans ((congrFun (pRow_ne (by decide)) _).trans ?_); refine (congrFun (congrFun eF81 _) _).trans ((pUp_a (by decide)).trans ?_); refine (congrFun (congrFun eF80 _) _).trans ((pUp_k (by decide)).trans ?_); refine (congrFun (congrFun eF78 _) _).trans ((pUp_k (by decide)).trans ?_); refine (congrFun (congrFun eF76 _) _).trans ((pUp_k (by decide)).trans ?_); exact (congrFun (congrFun eF74 _) _).trans pUp_s) ?_
  refine n_putf (q := 104) (jj := 9) 48 11 9 rfl kX11_65 (by rfl) (Or.inr (Or.inr (Or.inr (Or.inl ⟨_, rfl⟩)))) ?_
  refine PW.nameF (fun F94 eF94 => ?_)
  replace h := h F94 eF94
  refine s_aload_n (q := 105) 49 0 rfl rfl ?_
  refine n_new (q := 108) (a := 30) (n' := 31) 50 6 35 1401 rfl (by decide) kX11_66 kin_6.1 kin_6.2 (by decide) ?_
  refine PW.nameF (fun F95 eF95 => ?_)
  replace h := h F95 eF95
  refine s_dup (q := 109) 51 rfl ?_
  refine s_callN (b' := (10, 601)) (N := mX6_init) (as := []) (st := [(2, 30), (2, 0)]) (q := 112) (d' := 1) 52 rfl uX6_init kX11_68 rfl (by decide) ?_
  show PW l G 1 mX6_init (10, 601) 0 [(0, (2, 30))] [] (31, pKt K 31, F95, E85) _
  refine s_aload_n (q := 1) 0 0 rfl rfl ?_
  refine s_obj (q := 4) 1 rfl kX6_3 (by decide) ?_
  refine s_aload_n (q := 5) 2 0 rfl rfl ?_
  refine n_new (q := 8) (a := 31) (n' := 32) 3 4 9 600 rfl (by decide) kX6_9 kin_4.1 kin_4.2 (by decide) ?_
  refine PW.nameF (fun F96 eF96 => ?_)
  replace h := h F96 eF96
  refine s_dup (q := 9) 4 rfl ?_
  refine s_callN (b' := (1, 64)) (N := mX4_init) (as := []) (st := [(2, 31), (2, 30)]) (q := 12) (d' := 0) 5 rfl uX4_init kX6_11 rfl (by decide) ?_
  show PW l G 0 mX4_init (1, 64) 0 [(0, (2, 31))] [] (32, pKt K 32, F96, E85) _
  refine s_aload_n (q := 1) 0 0 rfl rfl ?_
  refine s_obj (q := 4) 1 rfl kX4_3 (by decide) ?_
  refine s_aload_n (q := 5) 2 0 rfl rfl ?_
  refine s_bipush (q := 7) 3 rfl ?_
  refine n_newa (q := 9) (a := 32) (n' := 33) (z := 64) 4 1 0 0 rfl (by decide) kar_long (by decide) (by decide) ?_
  refine PW.nameE (fun E97 eE97 => ?_)
  replace h := h E97 eE97
  refine n_putf (q := 12) (jj := 0) 5 4 0 rfl kX4_11 (by rfl) (Or.inr (Or.inr (Or.inr (Or.inr ⟨_, rfl⟩)))) ?_
  refine PW.nameF (fun F98 eF98 => ?_)
  replace h := h F98 eF98
  refine s_vret 6 rfl rfl ?_
  show PW l G 1 mX6_init (8, 536) 12 [(0, (2, 30))] [(2, 31), (2, 30)] (33, pKt K 33, F98, E97) _
  refine n_putf (q := 15) (jj := 0) 6 6 0 rfl kX6_12 (by rfl) (Or.inr (Or.inr (Or.inr (Or.inl ⟨_, rfl⟩)))) ?_
  refine PW.nameF (fun F99 eF99 => ?_)
  replace h := h F99 eF99
  refine s_aload_n (q := 16) 7 0 rfl rfl ?_
  refine s_bipush (q := 18) 8 rfl ?_
  refine n_newa (q := 20) (a := 33) (n' := 34) (z := 9) 9 0 7 527 rfl (by decide) kar_int (by decide) (by decide) ?_
  refine PW.nameE (fun E100 eE100 => ?_)
  replace h := h E100 eE100
  refine n_putf (q := 23) (jj := 1) 10 6 1 rfl kX6_18 (by rfl) (Or.inr (Or.inr (Or.inr (Or.inr ⟨_, rfl⟩)))) ?_
  refine PW.nameF (fun F101 eF101 => ?_)
  replace h := h F101 eF101
  refine s_aload_n (q := 24) 11 0 rfl rfl ?_
  refine n_new (q := 27) (a := 34) (n' := 35) 12 0 6 526 rfl (by decide) kX6_22 kin_0.1 kin_0.2 (by decide) ?_
  refine PW.nameF (fun F102 eF102 => ?_)
  replace h := h F102 eF102
  refine s_dup (q := 28) 13 rfl ?_
  refine s_callI (b' := (1, 117)) (N := mX0_init) (as := []) (st := [(2, 34), (2, 30)]) (q := 31) (d' := 0) 14 rfl uX0_init kX6_24 rfl (by decide) ?_
  show PW l G 0 mX0_init (1, 117) 0 [(0, (2, 34))] [] (35, pKt K 35, F102, E100) _
  refine s_aload_n (q := 1) 0 0 rfl rfl ?_
  refine s_obj (q := 4) 1 rfl kX0_3 (by decide) ?_
  refine s_aload_n (q := 5) 2 0 rfl rfl ?_
  refine s_bipush (q := 7) 3 rfl ?_
  refine n_newa (q := 9) (a := 35) (n' := 36) (z := 117) 4 0 0 0 rfl (by decide) kar_int (by decide) (by decide) ?_
  refine PW.nameE (fun E103 eE103 => ?_)
  replace h := h E103 eE103
  refine n_putf (q := 12) (jj := 0) 5 0 0 rfl kX0_11 (by rfl) (Or.inr (Or.inr (Or.inr (Or.inr ⟨_, rfl⟩)))) ?_
  refine PW.nameF (fun F104 eF104 => ?_)
  replace h := h F104 eF104
  refine s_iconst (q := 13) 6 rfl ?_
  refine s_istore_n (q := 14) (lv' := [(1, (0, 0)), (0, (2, 34))]) 7 rfl rfl ?_
  refine s_iload_n (q := 15) 8 0 rfl rfl ?_
  refine s_iconst (q := 16) 9 rfl ?_
  refine s_icmp_ge (q := 19) (tgt := 44) 10 rfl rfl (fun hb => absurd hb (by decide)) (fun _ => ?_)
  refine s_aload_n (q := 20) 11 1 rfl rfl ?_
  refine n_getf (q := 23) (jj := 0) 12 0 0 rfl kX0_11 (by rfl) ?_
  refine PW.top (b := 35) (by exact (congrFun (congrFun eF104 _) _).trans pUp_s) ?_
  refine s_iconst (q := 24) 13 rfl ?_
  refine s_iload_n (q := 25) 14 0 rfl rfl ?_
  refine n_iadd (q := 26) 15 rfl (by decide) ?_
  refine PW.top (b := 3) (by decide) ?_
  refine s_iconst (q := 27) 16 rfl ?_
  refine n_iast (q := 28) 17 rfl (by decide) (by rfl) ⟨by decide, (show 3 < ((117 : Nat) : Int) by decide)⟩ ?_
  refine PW.nameE (fun E105 eE105 => ?_)
  replace h := h E105 eE105
  refine s_aload_n (q := 29) 18 1 rfl rfl ?_
  refine n_getf (q := 32) (jj := 0) 19 0 0 rfl kX0_11 (by rfl) ?_
  refine PW.top (b := 35) (by exact (congrFun (congrFun eF104 _) _).trans pUp_s) ?_
  refine s_bipush (q := 34) 20 rfl ?_
  refine s_iload_n (q := 35) 21 0 rfl rfl ?_
  refine n_iadd (q := 36) 22 rfl (by decide) ?_
  refine PW.top (b := 6) (by decide) ?_
  refine s_iconst (q := 37) 23 rfl ?_
  refine n_iast (q := 38) 24 rfl (by decide) (by rfl) ⟨by decide, (show 6 < ((117 : Nat) : Int) by decide)⟩ ?_
  refine PW.nameE (fun E106 eE106 => ?_)
  replace h := h E106 eE106
  refine n_iinc (q := 41) (lv' := [(1, (0, 0 + 1)), (0, (2, 34))]) 25 0 rfl rfl (by decide) rfl ?_
  refine s_goto (tgt := 14) 26 rfl rfl ?_
  refine s_iload_n (q := 15) 8 0 rfl rfl ?_
  refine s_iconst (q := 16) 9 rfl ?_
  refine s_icmp_ge (q := 19) (tgt := 44) 10 rfl rfl (fun hb => absurd hb (by decide)) (fun _ => ?_)
  refine s_aload_n (q := 20) 11 1 rfl rfl ?_
  refine n_getf (q := 23) (jj := 0) 12 0 0 rfl kX0_11 (by rfl) ?_
  refine PW.top (b := 35) (by exact (congrFun (congrFun eF104 _) _).trans pUp_s) ?_
  refine s_iconst (q := 24) 13 rfl ?_
  refine s_iload_n (q := 25) 14 0 rfl rfl ?_
  refine n_iadd (q := 26) 15 rfl (by decide) ?_
  refine PW.top (b := 4) (by decide) ?_
  refine s_iconst (q := 27) 16 rfl ?_
  refine n_iast (q := 28) 17 rfl (by decide) (by rfl) ⟨by decide, (show 4 < ((117 : Nat) : Int) by decide)⟩ ?_
  refine PW.nameE (fun E107 eE107 => ?_)
  replace h := h E107 eE107
  refine s_aload_n (q := 29) 18 1 rfl rfl ?_
  refine n_getf (q := 32) (jj := 0) 19 0 0 rfl kX0_11 (by rfl) ?_
  refine PW.top (b := 35) (by exact (congrFun (congrFun eF104 _) _).trans pUp_s) ?_
  refine s_bipush (q := 34) 20 rfl ?_
  refine s_iload_n (q := 35) 21 0 rfl rfl ?_
  refine n_iadd (q := 36) 22 rfl (by decide) ?_
  refine PW.top (b := 7) (by decide) ?_
  refine s_iconst (q := 37) 23 rfl ?_
  refine n_iast (q := 38) 24 rfl (by decide) (by rfl) ⟨by decide, (show 7 < ((117 : Nat) : Int) by decide)⟩ ?_
  refine PW.nameE (fun E108 eE108 => ?_)
  replace h := h E108 eE108
  refine n_iinc (q := 41) (lv' := [(1, (0, 0 + 1 + 1)), (0, (2, 34))]) 25 0 rfl rfl (by decide) rfl ?_
  refine s_goto (tgt := 14) 26 rfl rfl ?_
  refine s_iload_n (q := 15) 8 0 rfl rfl ?_
  refine s_iconst (q := 16) 9 rfl ?_
  refine s_icmp_ge (q := 19) (tgt := 44) 10 rfl rfl (fun hb => absurd hb (by decide)) (fun _ => ?_)
  refine s_aload_n (q := 20) 11 1 rfl rfl ?_
  refine n_getf (q := 23) (jj := 0) 12 0 0 rfl kX0_11 (by rfl) ?_
  refine PW.top (b := 35) (by exact (congrFun (congrFun eF104 _) _).trans pUp_s) ?_
  refine s_iconst (q := 24) 13 rfl ?_
  refine s_iload_n (q := 25) 14 0 rfl rfl ?_
  refine n_iadd (q := 26) 15 rfl (by decide) ?_
  refine PW.top (b := 5) (by decide) ?_
  refine s_iconst (q := 27) 16 rfl ?_
  refine n_iast (q := 28) 17 rfl (by decide) (by rfl) ⟨by decide, (show 5 < ((117 : Nat) : Int) by decide)⟩ ?_
  refine PW.nameE (fun E109 eE109 => ?_)
  replace h := h E109 eE109
  refine s_aload_n (q := 29) 18 1 rfl rfl ?_
  refine n_getf (q := 32) (jj := 0) 19 0 0 rfl kX0_11 (by rfl) ?_
  refine PW.top (b := 35) (by exact (congrFun (congrFun eF104 _) _).trans pUp_s) ?_
  refine s_bipush (q := 34) 20 rfl ?_
  refine s_iload_n (q := 35) 21 0 rfl rfl ?_
  refine n_iadd (q := 36) 22 rfl (by decide) ?_
  refine PW.top (b := 8) (by decide) ?_
  refine s_iconst (q := 37) 23 rfl ?_
  refine n_iast (q := 38) 24 rfl (by decide) (by rfl) ⟨by decide, (show 8 < ((117 : Nat) : Int) by decide)⟩ ?_
  refine PW.nameE (fun E110 eE110 => ?_)
  replace h := h E110 eE110
  refine n_iinc (q := 41) (lv' := [(1, (0, 0 + 1 + 1 + 1)), (0, (2, 34))]) 25 0 rfl rfl (by decide) rfl ?_
  refine s_goto (tgt := 14) 26 rfl rfl ?_
  refine s_iload_n (q := 15) 8 0 rfl rfl ?_
  refine s_iconst (q := 16) 9 rfl ?_
  refine s_icmp_ge (q := 19) (tgt := 44) 10 rfl rfl (fun _ => ?_) (fun hb => absurd (by decide) hb)
  refine s_vret 27 rfl rfl ?_
  show PW l G 1 mX6_init (5, 409) 31 [(0, (2, 30))] [(2, 34), (2, 30)] (36, pKt K 36, F104, E110) _
  refine n_putf (q := 34) (jj := 2) 15 6 2 rfl kX6_25 (by rfl) (Or.inr (Or.inr (Or.inr (Or.inl ⟨_, rfl⟩)))) ?_
  refine PW.nameF (fun F111 eF111 => ?_)
  replace h := h F111 eF111
  refine s_aload_n (q := 35) 16 0 rfl rfl ?_
  refine s_null (q := 36) 17 rfl ?_
  refine n_putf (q := 39) (jj := 3) 18 6 3 rfl kX6_29 (by rfl) (Or.inr (Or.inr (Or.inr (Or.inl ⟨_, rfl⟩)))) ?_
  refine PW.nameF (fun F112 eF112 => ?_)
  replace h := h F112 eF112
  refine s_aload_n (q := 40) 19 0 rfl rfl ?_
  refine s_null (q := 41) 20 rfl ?_
  refine n_putf (q := 44) (jj := 4) 21 6 4 rfl kX6_33 (by rfl) (Or.inr (Or.inr (Or.inr (Or.inr ⟨_, rfl⟩)))) ?_
  refine PW.nameF (fun F113 eF113 => ?_)
  replace h := h F113 eF113
  refine s_aload_n (q := 45) 22 0 rfl rfl ?_
  refine s_iconst (q := 46) 23 rfl ?_
  refine n_putf (q := 49) (jj := 5) 24 6 5 rfl kX6_36 (by rfl) (Or.inl rfl) ?_
  refine PW.nameF (fun F114 eF114 => ?_)
  replace h := h F114 eF114
  refine s_aload_n (q := 50) 25 0 rfl rfl ?_
  refine s_iconst (q := 51) 26 rfl ?_
  refine n_putf (q := 54) (jj := 6) 27 6 6 rfl kX6_40 (by rfl) (Or.inl rfl) ?_
  refine PW.nameF (fun F115 eF115 => ?_)
  replace h := h F115 eF115
  refine s_aload_n (q := 55) 28 0 rfl rfl ?_
  refine s_iconst (q := 56) 29 rfl ?_
  refine n_newa (q := 58) (a := 36) (n' := 37) (z := 3) 30 0 4 406 rfl (by decide) kar_int (by decide) (by decide) ?_
  refine PW.nameE (fun E116 eE116 => ?_)
  replace h := h E116 eE116
  refine n_putf (q := 61) (jj := 7) 31 6 7 rfl kX6_43 (by rfl) (Or.inr (Or.inr (Or.inr (Or.inr ⟨_, rfl⟩)))) ?_
  refine PW.nameF (fun F117 eF117 => ?_)
  replace h := h F117 eF117
  refine s_aload_n (q := 62) 32 0 rfl rfl ?_
  refine s_bipush (q := 64) 33 rfl ?_
  refine n_newa (q := 66) (a := 37) (n' := 38) (z := 6) 34 0 3 400 rfl (by decide) kar_int (by decide) (by decide) ?_
  refine PW.nameE (fun E118 eE118 => ?_)
  replace h := h E118 eE118
  refine n_putf (q := 69) (jj := 8) 35 6 8 rfl kX6_46 (by rfl) (Or.inr (Or.inr (Or.inr (Or.inr ⟨_, rfl⟩)))) ?_
  refine PW.nameF (fun F119 eF119 => ?_)
  replace h := h F119 eF119
  refine s_aload_n (q := 70) 36 0 rfl rfl ?_
  refine s_iconst (q := 71) 37 rfl ?_
  refine n_newa (q := 73) (a := 38) (n' := 39) (z := 4) 38 0 2 396 rfl (by decide) kar_int (by decide) (by decide) ?_
  refine PW.nameE (fun E120 eE120 => ?_)
  replace h := h E120 eE120
  refine n_putf (q := 76) (jj := 9) 39 6 9 rfl kX6_49 (by rfl) (Or.inr (Or.inr (Or.inr (Or.inr ⟨_, rfl⟩)))) ?_
  refine PW.nameF (fun F121 eF121 => ?_)
  replace h := h F121 eF121
  refine s_aload_n (q := 77) 40 0 rfl rfl ?_
  refine s_sipush (q := 80) 41 rfl ?_
  refine n_newa (q := 82) (a := 39) (n' := 40) (z := 297) 42 0 1 99 rfl (by decide) kar_int (by decide) (by decide) ?_
  refine PW.nameE (fun E122 eE122 => ?_)
  replace h := h E122 eE122
  refine n_putf (q := 85) (jj := 10) 43 6 10 rfl kX6_52 (by rfl) (Or.inr (Or.inr (Or.inr (Or.inr ⟨_, rfl⟩)))) ?_
  refine PW.nameF (fun F123 eF123 => ?_)
  replace h := h F123 eF123
  refine s_aload_n (q := 86) 44 0 rfl rfl ?_
  refine s_bipush (q := 88) 45 rfl ?_
  refine n_newa (q := 90) (a := 40) (n' := 41) (z := 99) 46 0 0 0 rfl (by decide) kar_int (by decide) (by decide) ?_
  refine PW.nameE (fun E124 eE124 => ?_)
  replace h := h E124 eE124
  refine n_putf (q := 93) (jj := 11) 47 6 11 rfl kX6_55 (by rfl) (Or.inr (Or.inr (Or.inr (Or.inr ⟨_, rfl⟩)))) ?_
  refine PW.nameF (fun F125 eF125 => ?_)
  replace h := h F125 eF125
  refine s_aload_n (q := 94) 48 0 rfl rfl ?_
  refine s_iconst (q := 95) 49 rfl ?_
  refine n_putf (q := 98) (jj := 12) 50 6 12 rfl kX6_58 (by rfl) (Or.inl rfl) ?_
  refine PW.nameF (fun F126 eF126 => ?_)
  replace h := h F126 eF126
  refine s_aload_n (q := 99) 51 0 rfl rfl ?_
  refine s_iconst (q := 100) 52 rfl ?_
  refine n_putf (q := 103) (jj := 13) 53 6 13 rfl kX6_61 (by rfl) (Or.inl rfl) ?_
  refine PW.nameF (fun F127 eF127 => ?_)
  replace h := h F127 eF127
  refine s_aload_n (q := 104) 54 0 rfl rfl ?_
  refine s_iconst (q := 105) 55 rfl ?_
  refine n_putf (q := 108) (jj := 14) 56 6 14 rfl kX6_64 (by rfl) (Or.inl rfl) ?_
  refine PW.nameF (fun F128 eF128 => ?_)
  replace h := h F128 eF128
  refine s_aload_n (q := 109) 57 0 rfl rfl ?_
  refine s_iconst (q := 110) 58 rfl ?_
  refine n_putf (q := 113) (jj := 15) 59 6 15 rfl kX6_67 (by rfl) (Or.inl rfl) ?_
  refine PW.nameF (fun F129 eF129 => ?_)
  replace h := h F129 eF129
  refine s_aload_n (q := 114) 60 0 rfl rfl ?_
  refine s_iconst (q := 115) 61 rfl ?_
  refine n_putf (q := 118) (jj := 16) 62 6 16 rfl kX6_70 (by rfl) (Or.inr (Or.inr (Or.inl ⟨rfl, (by decide)⟩))) ?_
  refine PW.nameF (fun F130 eF130 => ?_)
  replace h := h F130 eF130
  refine s_vret 63 rfl rfl ?_
  show PW l G 3 mX11_init (25, 800) 112 [(0, (2, 0))] [(2, 30), (2, 0)] (41, pKt K 41, F130, E124) Q
  refine n_putf (q := 115) (jj := 10) 53 11 10 rfl kX11_69 (by rfl) (Or.inr (Or.inr (Or.inr (Or.inl ⟨_, rfl⟩)))) ?_
  refine PW.nameF (fun F131 eF131 => ?_)
  replace h := h F131 eF131
  refine s_aload_n (q := 116) 54 0 rfl rfl ?_
  refine n_new (q := 119) (a := 41) (n' := 42) 55 2 24 795 rfl (by decide) kX11_73 kin_2.1 kin_2.2 (by decide) ?_
  refine PW.nameF (fun F132 eF132 => ?_)
  replace h := h F132 eF132
  refine s_dup (q := 120) 56 rfl ?_
  refine s_callN (b' := (2, 396)) (N := mX2_init) (as := []) (st := [(2, 41), (2, 0)]) (q := 123) (d' := 0) 57 rfl uX2_init kX11_75 rfl (by decide) ?_
  show PW l G 0 mX2_init (2, 396) 0 [(0, (2, 41))] [] (42, pKt K 42, F132, E124) _
  refine s_aload_n (q := 1) 0 0 rfl rfl ?_
  refine s_obj (q := 4) 1 rfl kX2_3 (by decide) ?_
  refine s_aload_n (q := 5) 2 0 rfl rfl ?_
  refine s_sipush (q := 8) 3 rfl ?_
  refine n_newa (q := 10) (a := 42) (n' := 43) (z := 297) 4 0 1 99 rfl (by decide) kar_int (by decide) (by decide) ?_
  refine PW.nameE (fun E133 eE133 => ?_)
  replace h := h E133 eE133
  refine n_putf (q := 13) (jj := 0) 5 2 0 rfl kX2_9 (by rfl) (Or.inr (Or.inr (Or.inr (Or.inr ⟨_, rfl⟩)))) ?_
  refine PW.nameF (fun F134 eF134 => ?_)
  replace h := h F134 eF134
  refine s_aload_n (q := 14) 6 0 rfl rfl ?_
  refine s_iconst (q := 15) 7 rfl ?_
  refine n_putf (q := 18) (jj := 1) 8 2 1 rfl kX2_15 (by rfl) (Or.inl rfl) ?_
  refine PW.nameF (fun F135 eF135 => ?_)
  replace h := h F135 eF135
  refine s_aload_n (q := 19) 9 0 rfl rfl ?_
  refine s_bipush (q := 21) 10 rfl ?_
  refine n_newa (q := 23) (a := 43) (n' := 44) (z := 99) 11 0 0 0 rfl (by decide) kar_int (by decide) (by decide) ?_
  refine PW.nameE (fun E136 eE136 => ?_)
  replace h := h E136 eE136
  refine n_putf (q := 26) (jj := 2) 12 2 2 rfl kX2_19 (by rfl) (Or.inr (Or.inr (Or.inr (Or.inr ⟨_, rfl⟩)))) ?_
  refine PW.nameF (fun F137 eF137 => ?_)
  replace h := h F137 eF137
  refine s_aload_n (q := 27) 13 0 rfl rfl ?_
  refine s_iconst (q := 28) 14 rfl ?_
  refine n_putf (q := 31) (jj := 3) 15 2 3 rfl kX2_22 (by rfl) (Or.inl rfl) ?_
  refine PW.nameF (fun F138 eF138 => ?_)
  replace h := h F138 eF138
  refine s_aload_n (q := 32) 16 0 rfl rfl ?_
  refine s_iconst (q := 33) 17 rfl ?_
  refine n_putf (q := 36) (jj := 4) 18 2 4 rfl kX2_25 (by rfl) (Or.inl rfl) ?_
  refine PW.nameF (fun F139 eF139 => ?_)
  replace h := h F139 eF139
  refine s_vret 19 rfl rfl ?_
  show PW l G 3 mX11_init (22, 399) 123 [(0, (2, 0))] [(2, 41), (2, 0)] (44, pKt K 44, F139, E136) Q
  refine n_putf (q := 126) (jj := 11) 58 11 11 rfl kX11_76 (by rfl) (Or.inr (Or.inr (Or.inr (Or.inl ⟨_, rfl⟩)))) ?_
  refine PW.nameF (fun F140 eF140 => ?_)
  replace h := h F140 eF140
  refine s_aload_n (q := 127) 59 0 rfl rfl ?_
  refine n_new (q := 130) (a := 44) (n' := 45) 60 7 21 393 rfl (by decide) kX11_80 kin_7.1 kin_7.2 (by decide) ?_
  refine PW.nameF (fun F141 eF141 => ?_)
  replace h := h F141 eF141
  refine s_dup (q := 131) 61 rfl ?_
  refine s_callN (b' := (4, 80)) (N := mX7_init) (as := []) (st := [(2, 44), (2, 0)]) (q := 134) (d' := 1) 62 rfl uX7_init kX11_82 rfl (by decide) ?_
  show PW l G 1 mX7_init (4, 80) 0 [(0, (2, 44))] [] (45, pKt K 45, F141, E136) _
  refine s_aload_n (q := 1) 0 0 rfl rfl ?_
  refine s_obj (q := 4) 1 rfl kX7_3 (by decide) ?_
  refine s_aload_n (q := 5) 2 0 rfl rfl ?_
  refine n_new (q := 8) (a := 45) (n' := 46) 3 4 3 79 rfl (by decide) kX7_9 kin_4.1 kin_4.2 (by decide) ?_
  refine PW.nameF (fun F142 eF142 => ?_)
  replace h := h F142 eF142
  refine s_dup (q := 9) 4 rfl ?_
  refine s_callN (b' := (1, 64)) (N := mX4_init) (as := []) (st := [(2, 45), (2, 44)]) (q := 12) (d' := 0) 5 rfl uX4_init kX7_11 rfl (by decide) ?_
  show PW l G 0 mX4_init (1, 64) 0 [(0, (2, 45))] [] (46, pKt K 46, F142, E136) _
  refine s_aload_n (q := 1) 0 0 rfl rfl ?_
  refine s_obj (q := 4) 1 rfl kX4_3 (by decide) ?_
  refine s_aload_n (q := 5) 2 0 rfl rfl ?_
  refine s_bipush (q := 7) 3 rfl ?_
  refine n_newa (q := 9) (a := 46) (n' := 47) (z := 64) 4 1 0 0 rfl (by decide) kar_long (by decide) (by decide) ?_
  refine PW.nameE (fun E143 eE143 => ?_)
  replace h := h E143 eE143
  refine n_putf (q := 12) (jj := 0) 5 4 0 rfl kX4_11 (by rfl) (Or.inr (Or.inr (Or.inr (Or.inr ⟨_, rfl⟩)))) ?_
  refine PW.nameF (fun F144 eF144 => ?_)
  replace h := h F144 eF144
  refine s_vret 6 rfl rfl ?_
  show PW l G 1 mX7_init (2, 15) 12 [(0, (2, 44))] [(2, 45), (2, 44)] (47, pKt K 47, F144, E143) _
  refine n_putf (q := 15) (jj := 0) 6 7 0 rfl kX7_12 (by rfl) (Or.inr (Or.inr (Or.inr (Or.inl ⟨_, rfl⟩)))) ?_
  refine PW.nameF (fun F145 eF145 => ?_)
  replace h := h F145 eF145
  refine s_aload_n (q := 16) 7 0 rfl rfl ?_
  refine s_bipush (q := 18) 8 rfl ?_
  refine n_newa (q := 20) (a := 47) (n' := 48) (z := 12) 9 0 1 3 rfl (by decide) kar_int (by decide) (by decide) ?_
  refine PW.nameE (fun E146 eE146 => ?_)
  replace h := h E146 eE146
  refine n_putf (q := 23) (jj := 1) 10 7 1 rfl kX7_18 (by rfl) (Or.inr (Or.inr (Or.inr (Or.inr ⟨_, rfl⟩)))) ?_
  refine PW.nameF (fun F147 eF147 => ?_)
  replace h := h F147 eF147
  refine s_aload_n (q := 24) 11 0 rfl rfl ?_
  refine s_iconst (q := 25) 12 rfl ?_
  refine n_newa (q := 27) (a := 48) (n' := 49) (z := 3) 13 0 0 0 rfl (by decide) kar_int (by decide) (by decide) ?_
  refine PW.nameE (fun E148 eE148 => ?_)
  replace h := h E148 eE148
  refine n_putf (q := 30) (jj := 2) 14 7 2 rfl kX7_24 (by rfl) (Or.inr (Or.inr (Or.inr (Or.inr ⟨_, rfl⟩)))) ?_
  refine PW.nameF (fun F149 eF149 => ?_)
  replace h := h F149 eF149
  refine s_aload_n (q := 31) 15 0 rfl rfl ?_
  refine s_iconst (q := 32) 16 rfl ?_
  refine n_putf (q := 35) (jj := 3) 17 7 3 rfl kX7_27 (by rfl) (Or.inl rfl) ?_
  refine PW.nameF (fun F150 eF150 => ?_)
  replace h := h F150 eF150
  refine s_aload_n (q := 36) 18 0 rfl rfl ?_
  refine s_iconst (q := 37) 19 rfl ?_
  refine n_putf (q := 40) (jj := 4) 20 7 4 rfl kX7_31 (by rfl) (Or.inl rfl) ?_
  refine PW.nameF (fun F151 eF151 => ?_)
  replace h := h F151 eF151
  refine s_aload_n (q := 41) 21 0 rfl rfl ?_
  refine s_iconst (q := 42) 22 rfl ?_
  refine n_putf (q := 45) (jj := 5) 23 7 5 rfl kX7_34 (by rfl) (Or.inl rfl) ?_
  refine PW.nameF (fun F152 eF152 => ?_)
  replace h := h F152 eF152
  refine s_vret 24 rfl rfl ?_
  show PW l G 3 mX11_init (17, 313) 134 [(0, (2, 0))] [(2, 44), (2, 0)] (49, pKt K 49, F152, E148) Q
  refine n_putf (q := 137) (jj := 12) 63 11 12 rfl kX11_83 (by rfl) (Or.inr (Or.inr (Or.inr (Or.inl ⟨_, rfl⟩)))) ?_
  refine PW.nameF (fun F153 eF153 => ?_)
  replace h := h F153 eF153
  refine s_aload_n (q := 138) 64 0 rfl rfl ?_
  refine s_iconst (q := 139) 65 rfl ?_
  refine n_newa (q := 141) (a := 49) (n' := 50) (z := 5) 66 0 16 308 rfl (by decide) kar_int (by decide) (by decide) ?_
  refine PW.nameE (fun E154 eE154 => ?_)
  replace h := h E154 eE154
  refine n_putf (q := 144) (jj := 13) 67 11 13 rfl kX11_87 (by rfl) (Or.inr (Or.inr (Or.inr (Or.inr ⟨_, rfl⟩)))) ?_
  refine PW.nameF (fun F155 eF155 => ?_)
  replace h := h F155 eF155
  refine s_aload_n (q := 145) 68 0 rfl rfl ?_
  refine s_iconst (q := 146) 69 rfl ?_
  refine n_newa (q := 148) (a := 50) (n' := 51) (z := 4) 70 0 15 304 rfl (by decide) kar_int (by decide) (by decide) ?_
  refine PW.nameE (fun E156 eE156 => ?_)
  replace h := h E156 eE156
  refine n_putf (q := 151) (jj := 14) 71 11 14 rfl kX11_91 (by rfl) (Or.inr (Or.inr (Or.inr (Or.inr ⟨_, rfl⟩)))) ?_
  refine PW.nameF (fun F157 eF157 => ?_)
  replace h := h F157 eF157
  refine s_aload_n (q := 152) 72 0 rfl rfl ?_
  refine s_bipush (q := 154) 73 rfl ?_
  refine n_newa (q := 156) (a := 51) (n' := 52) (z := 10) 74 0 14 294 rfl (by decide) kar_int (by decide) (by decide) ?_
  refine PW.nameE (fun E158 eE158 => ?_)
  replace h := h E158 eE158
  refine n_putf (q := 159) (jj := 15) 75 11 15 rfl kX11_94 (by rfl) (Or.inr (Or.inr (Or.inr (Or.inr ⟨_, rfl⟩)))) ?_
  refine PW.nameF (fun F159 eF159 => ?_)
  replace h := h F159 eF159
  refine s_aload_n (q := 160) 76 0 rfl rfl ?_
  refine s_iconst (q := 161) 77 rfl ?_
  refine n_putf (q := 164) (jj := 16) 78 11 16 rfl kX11_97 (by rfl) (Or.inl rfl) ?_
  refine PW.nameF (fun F160 eF160 => ?_)
  replace h := h F160 eF160
  refine s_aload_n (q := 165) 79 0 rfl rfl ?_
  refine s_iconst (q := 166) 80 rfl ?_
  refine n_putf (q := 169) (jj := 17) 81 11 17 rfl kX11_101 (by rfl) (Or.inl rfl) ?_
  refine PW.nameF (fun F161 eF161 => ?_)
  replace h := h F161 eF161
  refine s_aload_n (q := 170) 82 0 rfl rfl ?_
  refine s_iconst (q := 171) 83 rfl ?_
  refine n_putf (q := 174) (jj := 18) 84 11 18 rfl kX11_104 (by rfl) (Or.inl rfl) ?_
  refine PW.nameF (fun F162 eF162 => ?_)
  replace h := h F162 eF162
  refine s_iconst (q := 175) 85 rfl ?_
  refine s_istore_n (q := 176) (lv' := [(1, (0, 0)), (0, (2, 0))]) 86 rfl rfl ?_
  refine s_iload_n (q := 177) 87 0 rfl rfl ?_
  refine s_iconst (q := 178) 88 rfl ?_
  refine s_icmp_ge (q := 181) (tgt := 200) 89 rfl rfl (fun hb => absurd hb (by decide)) (fun _ => ?_)
  refine s_aload_n (q := 182) 90 1 rfl rfl ?_
  refine n_getf (q := 185) (jj := 1) 91 11 1 rfl kX11_16 (by rfl) ?_
  refine PW.top (b := 8) (by refine (congrFun (congrFun eF162 _) _).trans ((pUp_k (by decide)).trans ?_); refine (congrFun (congrFun eF161 _) _).trans ((pUp_k (by decide)).trans ?_); refine (congrFun (congrFun eF160 _) _).trans ((pUp_k (by decide)).trans ?_); refine (congrFun (congrFun eF159 _) _).trans ((pUp_k (by decide)).trans ?_); refine (congrFun (congrFun eF157 _) _).trans ((pUp_k (by decide)).trans ?_); refine (congrFun (congrFun eF155 _) _).trans ((pUp_k (by decide)).trans ?_); refine (congrFun (congrFun eF153 _) _).trans ((pUp_k (by decide)).trans ?_); refine (congrFun (congrFun eF152 _) _).trans ((pUp_a (by decide)).trans ?_); refine (congrFun (congrFun eF151 _) _).trans ((pUp_a (by decide)).trans ?_); refine (congrFun (congrFun eF150 _) _).trans ((pUp_a (by decide)).trans ?_); refine (congrFun (congrFun eF149 _) _).trans ((pUp_a (by decide)).trans ?_); refine (congrFun (congrFun eF147 _) _).trans ((pUp_a (by decide)).trans ?_); refine (congrFun (congrFun eF145 _) _).trans ((pUp_a (by decide)).trans ?_); refine (congrFun (congrFun eF144 _) _).trans ((pUp_a (by decide)).trans ?_); refine (congrFun (congrFun eF142 _) _).trans ((congrFun (pRow_ne (by decide)) _).trans ?_); refine (congrFun (congrFun eF141 _) _).trans ((congrFun (pRow_ne (by decide)) _).trans ?_); refine (congrFun (congrFun eF140 _) _).trans ((pUp_k (by decide)).trans ?_); refine (congrFun (congrFun eF139 _) _).trans ((pUp_a (by decide)).trans ?_); refine (congrFun (congrFun eF138 _) _).trans ((pUp_a (by decide)).trans ?_); refine (congrFun (congrFun eF137 _) _).trans ((pUp_a (by decide)).trans ?_); refine (congrFun (congrFun eF135 _) _).trans ((pUp_a (by decide)).trans ?_); refine (congrFun (congrFun eF134 _) _).trans ((pUp_a (by decide)).trans ?_); refine (congrFun (congrFun eF132 _) _).trans ((congrFun (pRow_ne (by decide)) _).trans ?_); refine (congrFun (congrFun eF131 _) _).trans ((pUp_k (by decide)).trans ?_); refine (congrFun (congrFun eF130 _) _).trans ((pUp_a (by decide)).trans ?_); refine (congrFun (congrFun eF129 _) _).trans ((pUp_a (by decide)).trans ?_); refine (congrFun (congrFun eF128 _) _).trans ((pUp_a (by decide)).trans ?_); refine (congrFun (congrFun eF127 _) _).trans ((pUp_a (by decide)).trans ?_); refine (congrFun (congrFun eF126 _) _).trans ((pUp_a (by decide)).trans ?_); refine (congrFun (congrFun eF125 _) _).trans ((pUp_a (by decide)).trans ?_); refine (congrFun (congrFun eF123 _) _).trans ((pUp_a (by decide)).trans ?_); refine (congrFun (congrFun eF121 _) _).trans ((pUp_a (by decide)).trans ?_); refine (congrFun (congrFun eF119 _) _).trans ((pUp_a (by decide)).trans ?_); refine (congrFun (congrFun eF117 _) _).trans ((pUp_a (by decide)).trans ?_); refine (congrFun (congrFun eF115 _) _).trans ((pUp_a (by decide)).trans ?_); refine (congrFun (congrFun eF114 _) _).trans ((pUp_a (by decide)).trans ?_); refine (congrFun (congrFun eF113 _) _).trans ((pUp_a (by decide)).trans ?_); refine (congrFun (congrFun eF112 _) _).trans ((pUp_a (by decide)).trans ?_); refine (congrFun (congrFun eF111 _) _).trans ((pUp_a (by decide)).trans ?_); refine (congrFun (congrFun eF104 _) _).trans ((pUp_a (by decide)).trans ?_); refine (congrFun (congrFun eF102 _) _).trans ((congrFun (pRow_ne (by decide)) _).trans ?_); refine (congrFun (congrFun eF101 _) _).trans ((pUp_a (by decide)).trans ?_); refine (congrFun (congrFun eF99 _) _).trans ((pUp_a (by decide)).trans ?_); refine (congrFun (congrFun eF98 _) _).trans ((pUp_a (by decide)).trans ?_); refine (congrFun (congrFun eF96 _) _).trans ((congrFun (pRow_ne (by decide)) _).trans ?_); refine (congrFun (congrFun eF95 _) _).trans ((congrFun (pRow_ne (by decide)) _).trans ?_); refine (congrFun (congrFun eF94 _) _).trans ((pUp_k (by decide)).trans ?_); refine (congrFun (congrFun eF93 _) _).trans ((pUp_k (by decide)).trans ?_); refine (congrFun (congrFun eF92 _) _).trans ((pUp_a (by decide)).trans ?_); refine (congrFun (congrFun eF91 _) _).trans ((pUp_a (by decide)).trans ?_); refine (congrFun (congrFun eF90 _) _).trans ((pUp_a (by decide)).trans ?_); refine (congrFun (congrFun eF89 _) _).trans ((pUp_a (by decide)).trans ?_); refine (congrFun (congrFun eF88 _) _).trans ((pUp_a (by decide)).trans ?_); refine (congrFun (congrFun eF87 _) _).trans ((pUp_a (by decide)).trans ?_); refine (congrFun (congrFun eF86 _) _).trans ((pUp_a (by decide)).trans ?_); refine (congrFun (congrFun eF84 _) _).trans ((pUp_a (by decide)).trans ?_); refine (congrFun (congrFun eF82 _) _).trans ((congrFun (pRow_ne (by decide)) _).trans ?_); refine (congrFun (congrFun eF81 _) _).trans ((pUp_a (by decide)).trans ?_); refine (congrFun (congrFun eF80 _) _).trans ((pUp_a (by decide)).trans ?_); refine (congrFun (congrFun eF78 _) _).trans ((pUp_a (by decide)).trans ?_); refine (congrFun (congrFun eF76 _) _).trans ((pUp_a (by decide)).trans ?_); refine (congrFun (congrFun eF74 _) _).trans ((pUp_a (by decide)).trans ?_); refine (congrFun (congrFun eF73 _) _).trans ((pUp_a (by decide)).trans ?_); refine (congrFun (congrFun eF72 _) _).trans ((pUp_a (by decide)).trans ?_); refine (congrFun (congrFun eF70 _) _).trans ((congrFun (pRow_ne (by decide)) _).trans ?_); refine (congrFun (congrFun eF69 _) _).trans ((congrFun (pRow_ne (by decide)) _).trans ?_); refine (congrFun (congrFun eF68 _) _).trans ((congrFun (pRow_ne (by decide)) _).trans ?_); refine (congrFun (congrFun eF67 _) _).trans ((pUp_k (by decide)).trans ?_); refine (congrFun (congrFun eF66 _) _).trans ((pUp_k (by decide)).trans ?_); refine (congrFun (congrFun eF59 _) _).trans ((pUp_a (by decide)).trans ?_); refine (congrFun (congrFun eF57 _) _).trans ((congrFun (pRow_ne (by decide)) _).trans ?_); refine (congrFun (congrFun eF56 _) _).trans ((pUp_k (by decide)).trans ?_); refine (congrFun (congrFun eF49 _) _).trans ((pUp_a (by decide)).trans ?_); refine (congrFun (congrFun eF47 _) _).trans ((congrFun (pRow_ne (by decide)) _).trans ?_); refine (congrFun (congrFun eF46 _) _).trans ((pUp_k (by decide)).trans ?_); refine (congrFun (congrFun eF45 _) _).trans ((pUp_a (by decide)).trans ?_); refine (congrFun (congrFun eF44 _) _).trans ((pUp_a (by decide)).trans ?_); refine (congrFun (congrFun eF43 _) _).trans ((pUp_a (by decide)).trans ?_); refine (congrFun (congrFun eF41 _) _).trans ((pUp_a (by decide)).trans ?_); refine (congrFun (congrFun eF39 _) _).trans ((congrFun (pRow_ne (by decide)) _).trans ?_); refine (congrFun (congrFun eF38 _) _).trans ((pUp_k (by decide)).trans ?_); refine (congrFun (congrFun eF37 _) _).trans ((pUp_a (by decide)).trans ?_); refine (congrFun (congrFun eF36 _) _).trans ((pUp_a (by decide)).trans ?_); refine (congrFun (congrFun eF35 _) _).trans ((pUp_a (by decide)).trans ?_); refine (congrFun (congrFun eF33 _) _).trans ((pUp_a (by decide)).trans ?_); refine (congrFun (congrFun eF31 _) _).trans ((congrFun (pRow_ne (by decide)) _).trans ?_); refine (congrFun (congrFun eF30 _) _).trans ((pUp_k (by decide)).trans ?_); exact (congrFun (congrFun eF28 _) _).trans pUp_s) ?_
  refine s_iload_n (q := 186) 92 0 rfl rfl ?_
  refine n_new (q := 189) (a := 52) (n' := 53) 93 1 13 286 rfl (by decide) kX11_7 kin_1.1 kin_1.2 (by decide) ?_
  refine PW.nameF (fun F163 eF163 => ?_)
  replace h := h F163 eF163
  refine s_dup (q := 190) 94 rfl ?_
  refine s_callN (b' := (6, 139)) (N := mX1_init) (as := []) (st := [(2, 52), (0, 0), (2, 8)]) (q := 193) (d' := 1) 95 rfl uX1_init kX11_9 rfl (by decide) ?_
  show PW l G 1 mX1_init (6, 139) 0 [(0, (2, 52))] [] (53, pKt K 53, F163, E158) _
  refine s_aload_n (q := 1) 0 0 rfl rfl ?_
  refine s_obj (q := 4) 1 rfl kX1_3 (by decide) ?_
  refine s_aload_n (q := 5) 2 0 rfl rfl ?_
  refine n_new (q := 8) (a := 53) (n' := 54) 3 0 5 138 rfl (by decide) kX1_9 kin_0.1 kin_0.2 (by decide) ?_
  refine PW.nameF (fun F164 eF164 => ?_)
  replace h := h F164 eF164
  refine s_dup (q := 9) 4 rfl ?_
  refine s_callI (b' := (1, 117)) (N := mX0_init) (as := []) (st := [(2, 53), (2, 52)]) (q := 12) (d' := 0) 5 rfl uX0_init kX1_11 rfl (by decide) ?_
  show PW l G 0 mX0_init (1, 117) 0 [(0, (2, 53))] [] (54, pKt K 54, F164, E158) _
  refine s_aload_n (q := 1) 0 0 rfl rfl ?_
  refine s_obj (q := 4) 1 rfl kX0_3 (by decide) ?_
  refine s_aload_n (q := 5) 2 0 rfl rfl ?_
  refine s_bipush (q := 7) 3 rfl ?_
  refine n_newa (q := 9) (a := 54) (n' := 55) (z := 117) 4 0 0 0 rfl (by decide) kar_int (by decide) (by decide) ?_
  refine PW.nameE (fun E165 eE165 => ?_)
  replace h := h E165 eE165
  refine n_putf (q := 12) (jj := 0) 5 0 0 rfl kX0_11 (by rfl) (Or.inr (Or.inr (Or.inr (Or.inr ⟨_, rfl⟩)))) ?_
  refine PW.nameF (fun F166 eF166 => ?_)
  replace h := h F166 eF166
  refine s_iconst (q := 13) 6 rfl ?_
  refine s_istore_n (q := 14) (lv' := [(1, (0, 0)), (0, (2, 53))]) 7 rfl rfl ?_
  refine s_iload_n (q := 15) 8 0 rfl rfl ?_
  refine s_iconst (q := 16) 9 rfl ?_
  refine s_icmp_ge (q := 19) (tgt := 44) 10 rfl rfl (fun hb => absurd hb (by decide)) (fun _ => ?_)
  refine s_aload_n (q := 20) 11 1 rfl rfl ?_
  refine n_getf (q := 23) (jj := 0) 12 0 0 rfl kX0_11 (by rfl) ?_
  refine PW.top (b := 54) (by exact (congrFun (congrFun eF166 _) _).trans pUp_s) ?_
  refine s_iconst (q := 24) 13 rfl ?_
  refine s_iload_n (q := 25) 14 0 rfl rfl ?_
  refine n_iadd (q := 26) 15 rfl (by decide) ?_
  refine PW.top (b := 3) (by decide) ?_
  refine s_iconst (q := 27) 16 rfl ?_
  refine n_iast (q := 28) 17 rfl (by decide) (by rfl) ⟨by decide, (show 3 < ((117 : Nat) : Int) by decide)⟩ ?_
  refine PW.nameE (fun E167 eE167 => ?_)
  replace h := h E167 eE167
  refine s_aload_n (q := 29) 18 1 rfl rfl ?_
  refine n_getf (q := 32) (jj := 0) 19 0 0 rfl kX0_11 (by rfl) ?_
  refine PW.top (b := 54) (by exact (congrFun (congrFun eF166 _) _).trans pUp_s) ?_
  refine s_bipush (q := 34) 20 rfl ?_
  refine s_iload_n (q := 35) 21 0 rfl rfl ?_
  refine n_iadd (q := 36) 22 rfl (by decide) ?_
  refine PW.top (b := 6) (by decide) ?_
  refine s_iconst (q := 37) 23 rfl ?_
  refine n_iast (q := 38) 24 rfl (by decide) (by rfl) ⟨by decide, (show 6 < ((117 : Nat) : Int) by decide)⟩ ?_
  refine PW.nameE (fun E168 eE168 => ?_)
  replace h := h E168 eE168
  refine n_iinc (q := 41) (lv' := [(1, (0, 0 + 1)), (0, (2, 53))]) 25 0 rfl rfl (by decide) rfl ?_
  refine s_goto (tgt := 14) 26 rfl rfl ?_
  refine s_iload_n (q := 15) 8 0 rfl rfl ?_
  refine s_iconst (q := 16) 9 rfl ?_
  refine s_icmp_ge (q := 19) (tgt := 44) 10 rfl rfl (fun hb => absurd hb (by decide)) (fun _ => ?_)
  refine s_aload_n (q := 20) 11 1 rfl rfl ?_
  refine n_getf (q := 23) (jj := 0) 12 0 0 rfl kX0_11 (by rfl) ?_
  refine PW.top (b := 54) (by exact (congrFun (congrFun eF166 _) _).trans pUp_s) ?_
  refine s_iconst (q := 24) 13 rfl ?_
  refine s_iload_n (q := 25) 14 0 rfl rfl ?_
  refine n_iadd (q := 26) 15 rfl (by decide) ?_
  refine PW.top (b := 4) (by decide) ?_
  refine s_iconst (q := 27) 16 rfl ?_
  refine n_iast (q := 28) 17 rfl (by decide) (by rfl) ⟨by decide, (show 4 < ((117 : Nat) : Int) by decide)⟩ ?_
  refine PW.nameE (fun E169 eE169 => ?_)
  replace h := h E169 eE169
  refine s_aload_n (q := 29) 18 1 rfl rfl ?_
  refine n_getf (q := 32) (jj := 0) 19 0 0 rfl kX0_11 (by rfl) ?_
  refine PW.top (b := 54) (by exact (congrFun (congrFun eF166 _) _).trans pUp_s) ?_
  refine s_bipush (q := 34) 20 rfl ?_
  refine s_iload_n (q := 35) 21 0 rfl rfl ?_
  refine n_iadd (q := 36) 22 rfl (by decide) ?_
  refine PW.top (b := 7) (by decide) ?_
  refine s_iconst (q := 37) 23 rfl ?_
  refine n_iast (q := 38) 24 rfl (by decide) (by rfl) ⟨by decide, (show 7 < ((117 : Nat) : Int) by decide)⟩ ?_
  refine PW.nameE (fun E170 eE170 => ?_)
  replace h := h E170 eE170
  refine n_iinc (q := 41) (lv' := [(1, (0, 0 + 1 + 1)), (0, (2, 53))]) 25 0 rfl rfl (by decide) rfl ?_
  refine s_goto (tgt := 14) 26 rfl rfl ?_
  refine s_iload_n (q := 15) 8 0 rfl rfl ?_
  refine s_iconst (q := 16) 9 rfl ?_
  refine s_icmp_ge (q := 19) (tgt := 44) 10 rfl rfl (fun hb => absurd hb (by decide)) (fun _ => ?_)
  refine s_aload_n (q := 20) 11 1 rfl rfl ?_
  refine n_getf (q := 23) (jj := 0) 12 0 0 rfl kX0_11 (by rfl) ?_
  refine PW.top (b := 54) (by exact (congrFun (congrFun eF166 _) _).trans pUp_s) ?_
  refine s_iconst (q := 24) 13 rfl ?_
  refine s_iload_n (q := 25) 14 0 rfl rfl ?_
  refine n_iadd (q := 26) 15 rfl (by decide) ?_
  refine PW.top (b := 5) (by decide) ?_
  refine s_iconst (q := 27) 16 rfl ?_
  refine n_iast (q := 28) 17 rfl (by decide) (by rfl) ⟨by decide, (show 5 < ((117 : Nat) : Int) by decide)⟩ ?_
  refine PW.nameE (fun E171 eE171 => ?_)
  replace h := h E171 eE171
  refine s_aload_n (q := 29) 18 1 rfl rfl ?_
  refine n_getf (q := 32) (jj := 0) 19 0 0 rfl kX0_11 (by rfl) ?_
  refine PW.top (b := 54) (by exact (congrFun (congrFun eF166 _) _).trans pUp_s) ?_
  refine s_bipush (q := 34) 20 rfl ?_
  refine s_iload_n (q := 35) 21 0 rfl rfl ?_
  refine n_iadd (q := 36) 22 rfl (by decide) ?_
  refine PW.top (b := 8) (by decide) ?_
  refine s_iconst (q := 37) 23 rfl ?_
  refine n_iast (q := 38) 24 rfl (by decide) (by rfl) ⟨by decide, (show 8 < ((117 : Nat) : Int) by decide)⟩ ?_
  refine PW.nameE (fun E172 eE172 => ?_)
  replace h := h E172 eE172
  refine n_iinc (q := 41) (lv' := [(1, (0, 0 + 1 + 1 + 1)), (0, (2, 53))]) 25 0 rfl rfl (by decide) rfl ?_
  refine s_goto (tgt := 14) 26 rfl rfl ?_
  refine s_iload_n (q := 15) 8 0 rfl rfl ?_
  refine s_iconst (q := 16) 9 rfl ?_
  refine s_icmp_ge (q := 19) (tgt := 44) 10 rfl rfl (fun _ => ?_) (fun hb => absurd (by decide) hb)
  refine s_vret 27 rfl rfl ?_
  show PW l G 1 mX1_init (4, 21) 12 [(0, (2, 52))] [(2, 53), (2, 52)] (55, pKt K 55, F166, E172) _
  refine n_putf (q := 15) (jj := 0) 6 1 0 rfl kX1_12 (by rfl) (Or.inr (Or.inr (Or.inr (Or.inl ⟨_, rfl⟩)))) ?_
  refine PW.nameF (fun F173 eF173 => ?_)
  replace h := h F173 eF173
  refine s_aload_n (q := 16) 7 0 rfl rfl ?_
  refine s_iconst (q := 17) 8 rfl ?_
  refine n_newa (q := 19) (a := 55) (n' := 56) (z := 3) 9 0 3 18 rfl (by decide) kar_int (by decide) (by decide) ?_
  refine PW.nameE (fun E174 eE174 => ?_)
  replace h := h E174 eE174
  refine s_dup (q := 20) 10 rfl ?_
  refine s_iconst (q := 21) 11 rfl ?_
  refine s_sipush (q := 24) 12 rfl ?_
  refine n_iast (q := 25) 13 rfl (by decide) (by rfl) ⟨by decide, (show 0 < ((3 : Nat) : Int) by decide)⟩ ?_
  refine PW.nameE (fun E175 eE175 => ?_)
  replace h := h E175 eE175
  refine s_dup (q := 26) 14 rfl ?_
  refine s_iconst (q := 27) 15 rfl ?_
  refine s_iconst (q := 28) 16 rfl ?_
  refine n_iast (q := 29) 17 rfl (by decide) (by rfl) ⟨by decide, (show 1 < ((3 : Nat) : Int) by decide)⟩ ?_
  refine PW.nameE (fun E176 eE176 => ?_)
  replace h := h E176 eE176
  refine s_dup (q := 30) 18 rfl ?_
  refine s_iconst (q := 31) 19 rfl ?_
  refine s_iconst (q := 32) 20 rfl ?_
  refine n_iast (q := 33) 21 rfl (by decide) (by rfl) ⟨by decide, (show 2 < ((3 : Nat) : Int) by decide)⟩ ?_
  refine PW.nameE (fun E177 eE177 => ?_)
  replace h := h E177 eE177
  refine n_putf (q := 36) (jj := 1) 22 1 1 rfl kX1_18 (by rfl) (Or.inr (Or.inr (Or.inr (Or.inr ⟨_, rfl⟩)))) ?_
  refine PW.nameF (fun F178 eF178 => ?_)
  replace h := h F178 eF178
  refine s_aload_n (q := 37) 23 0 rfl rfl ?_
  refine s_bipush (q := 39) 24 rfl ?_
  refine n_newa (q := 41) (a := 56) (n' := 57) (z := 6) 25 0 2 12 rfl (by decide) kar_int (by decide) (by decide) ?_
  refine PW.nameE (fun E179 eE179 => ?_)
  replace h := h E179 eE179
  refine n_putf (q := 44) (jj := 2) 26 1 2 rfl kX1_22 (by rfl) (Or.inr (Or.inr (Or.inr (Or.inr ⟨_, rfl⟩)))) ?_
  refine PW.nameF (fun F180 eF180 => ?_)
  replace h := h F180 eF180
  refine s_aload_n (q := 45) 27 0 rfl rfl ?_
  refine s_bipush (q := 47) 28 rfl ?_
  refine n_newa (q := 49) (a := 57) (n' := 58) (z := 6) 29 0 1 6 rfl (by decide) kar_int (by decide) (by decide) ?_
  refine PW.nameE (fun E181 eE181 => ?_)
  replace h := h E181 eE181
  refine n_putf (q := 52) (jj := 3) 30 1 3 rfl kX1_25 (by rfl) (Or.inr (Or.inr (Or.inr (Or.inr ⟨_, rfl⟩)))) ?_
  refine PW.nameF (fun F182 eF182 => ?_)
  replace h := h F182 eF182
  refine s_aload_n (q := 53) 31 0 rfl rfl ?_
  refine s_iconst (q := 54) 32 rfl ?_
  refine n_putf (q := 57) (jj := 4) 33 1 4 rfl kX1_28 (by rfl) (Or.inl rfl) ?_
  refine PW.nameF (fun F183 eF183 => ?_)
  replace h := h F183 eF183
  refine s_aload_n (q := 58) 34 0 rfl rfl ?_
  refine s_bipush (q := 60) 35 rfl ?_
  refine n_newq (q := 63) (a := 58) (n' := 59) (z := 6) 36 5 0 0 rfl (by decide) kX1_32 kao_Text (by decide) (by decide) ?_
  refine PW.nameE (fun E184 eE184 => ?_)
  replace h := h E184 eE184
  refine n_putf (q := 66) (jj := 5) 37 1 5 rfl kX1_34 (by rfl) (Or.inr (Or.inr (Or.inr (Or.inr ⟨_, rfl⟩)))) ?_
  refine PW.nameF (fun F185 eF185 => ?_)
  replace h := h F185 eF185
  refine s_aload_n (q := 67) 38 0 rfl rfl ?_
  refine s_iconst (q := 68) 39 rfl ?_
  refine n_putf (q := 71) (jj := 6) 40 1 6 rfl kX1_38 (by rfl) (Or.inl rfl) ?_
  refine PW.nameF (fun F186 eF186 => ?_)
  replace h := h F186 eF186
  refine s_aload_n (q := 72) 41 0 rfl rfl ?_
  refine s_iconst (q := 73) 42 rfl ?_
  refine n_putf (q := 76) (jj := 7) 43 1 7 rfl kX1_41 (by rfl) (Or.inl rfl) ?_
  refine PW.nameF (fun F187 eF187 => ?_)
  replace h := h F187 eF187
  refine s_vret 44 rfl rfl ?_
  show PW l G 3 mX11_init (7, 147) 193 [(1, (0, 0)), (0, (2, 0))] [(2, 52), (0, 0), (2, 8)] (59, pKt K 59, F187, E184) Q
  refine n_aast (q := 194) 96 4 rfl (by decide) (by rfl) ⟨by decide, (show 0 < ((2 : Nat) : Int) by decide)⟩ (Or.inr rfl) ?_
  refine PW.nameE (fun E188 eE188 => ?_)
  replace h := h E188 eE188
  refine n_iinc (q := 197) (lv' := [(1, (0, 0 + 1)), (0, (2, 0))]) 97 0 rfl rfl (by decide) rfl ?_
  refine s_goto (tgt := 176) 98 rfl rfl ?_
  refine s_iload_n (q := 177) 87 0 rfl rfl ?_
  refine s_iconst (q := 178) 88 rfl ?_
  refine s_icmp_ge (q := 181) (tgt := 200) 89 rfl rfl (fun hb => absurd hb (by decide)) (fun _ => ?_)
  refine s_aload_n (q := 182) 90 1 rfl rfl ?_
  refine n_getf (q := 185) (jj := 1) 91 11 1 rfl kX11_16 (by rfl) ?_
  refine PW.top (b := 8) (by refine (congrFun (congrFun eF187 _) _).trans ((pUp_a (by decide)).trans ?_); refine (congrFun (congrFun eF186 _) _).trans ((pUp_a (by decide)).trans ?_); refine (congrFun (congrFun eF185 _) _).trans ((pUp_a (by decide)).trans ?_); refine (congrFun (congrFun eF183 _) _).trans ((pUp_a (by decide)).trans ?_); refine (congrFun (congrFun eF182 _) _).trans ((pUp_a (by decide)).trans ?_); refine (congrFun (congrFun eF180 _) _).trans ((pUp_a (by decide)).trans ?_); refine (congrFun (congrFun eF178 _) _).trans ((pUp_a (by decide)).trans ?_); refine (congrFun (congrFun eF173 _) _).trans ((pUp_a (by decide)).trans ?_); refine (congrFun (congrFun eF166 _) _).trans ((pUp_a (by decide)).trans ?_); refine (congrFun (congrFun eF164 _) _).trans ((congrFun (pRow_ne (by decide)) _).trans ?_); refine (congrFun (congrFun eF163 _) _).trans ((congrFun (pRow_ne (by decide)) _).trans ?_); refine (congrFun (congrFun eF162 _) _).trans ((pUp_k (by decide)).trans ?_); refine (congrFun (congrFun eF161 _) _).trans ((pUp_k (by decide)).trans ?_); refine (congrFun (congrFun eF160 _) _).trans ((pUp_k (by decide)).trans ?_); refine (congrFun (congrFun eF159 _) _).trans ((pUp_k (by decide)).trans ?_); refine (congrFun (congrFun eF157 _) _).trans ((pUp_k (by decide)).trans ?_); refine (congrFun (congrFun eF155 _) _).trans ((pUp_k (by decide)).trans ?_); refine (congrFun (congrFun eF153 _) _).trans ((pUp_k (by decide)).trans ?_); refine (congrFun (congrFun eF152 _) _).trans ((pUp_a (by decide)).trans ?_); refine (congrFun (congrFun eF151 _) _).trans ((pUp_a (by decide)).trans ?_); refine (congrFun (congrFun eF150 _) _).trans ((pUp_a (by decide)).trans ?_); refine (congrFun (congrFun eF149 _) _).trans ((pUp_a (by decide)).trans ?_); refine (congrFun (congrFun eF147 _) _).trans ((pUp_a (by decide)).trans ?_); refine (congrFun (congrFun eF145 _) _).trans ((pUp_a (by decide)).trans ?_); refine (congrFun (congrFun eF144 _) _).trans ((pUp_a (by decide)).trans ?_); refine (congrFun (congrFun eF142 _) _).trans ((congrFun (pRow_ne (by decide)) _).trans ?_); refine (congrFun (congrFun eF141 _) _).trans ((congrFun (pRow_ne (by decide)) _).trans ?_); refine (congrFun (congrFun eF140 _) _).trans ((pUp_k (by decide)).trans ?_); refine (congrFun (congrFun eF139 _) _).trans ((pUp_a (by decide)).trans ?_); refine (congrFun (congrFun eF138 _) _).trans ((pUp_a (by decide)).trans ?_); refine (congrFun (congrFun eF137 _) _).trans ((pUp_a (by decide)).trans ?_); refine (congrFun (congrFun eF135 _) _).trans ((pUp_a (by decide)).trans ?_); refine (congrFun (congrFun eF134 _) _).trans ((pUp_a (by decide)).trans ?_); refine (congrFun (congrFun eF132 _) _).trans ((congrFun (pRow_ne (by decide)) _).trans ?_); refine (congrFun (congrFun eF131 _) _).trans ((pUp_k (by decide)).trans ?_); refine (congrFun (congrFun eF130 _) _).trans ((pUp_a (by decide)).trans ?_); refine (congrFun (congrFun eF129 _) _).trans ((pUp_a (by decide)).trans ?_); refine (congrFun (congrFun eF128 _) _).trans ((pUp_a (by decide)).trans ?_); refine (congrFun (congrFun eF127 _) _).trans ((pUp_a (by decide)).trans ?_); refine (congrFun (congrFun eF126 _) _).trans ((pUp_a (by decide)).trans ?_); refine (congrFun (congrFun eF125 _) _).trans ((pUp_a (by decide)).trans ?_); refine (congrFun (congrFun eF123 _) _).trans ((pUp_a (by decide)).trans ?_); refine (congrFun (congrFun eF121 _) _).trans ((pUp_a (by decide)).trans ?_); refine (congrFun (congrFun eF119 _) _).trans ((pUp_a (by decide)).trans ?_); refine (congrFun (congrFun eF117 _) _).trans ((pUp_a (by decide)).trans ?_); refine (congrFun (congrFun eF115 _) _).trans ((pUp_a (by decide)).trans ?_); refine (congrFun (congrFun eF114 _) _).trans ((pUp_a (by decide)).trans ?_); refine (congrFun (congrFun eF113 _) _).trans ((pUp_a (by decide)).trans ?_); refine (congrFun (congrFun eF112 _) _).trans ((pUp_a (by decide)).trans ?_); refine (congrFun (congrFun eF111 _) _).trans ((pUp_a (by decide)).trans ?_); refine (congrFun (congrFun eF104 _) _).trans ((pUp_a (by decide)).trans ?_); refine (congrFun (congrFun eF102 _) _).trans ((congrFun (pRow_ne (by decide)) _).trans ?_); refine (congrFun (congrFun eF101 _) _).trans ((pUp_a (by decide)).trans ?_); refine (congrFun (congrFun eF99 _) _).trans ((pUp_a (by decide)).trans ?_); refine (congrFun (congrFun eF98 _) _).trans ((pUp_a (by decide)).trans ?_); refine (congrFun (congrFun eF96 _) _).trans ((congrFun (pRow_ne (by decide)) _).trans ?_); refine (congrFun (congrFun eF95 _) _).trans ((congrFun (pRow_ne (by decide)) _).trans ?_); refine (congrFun (congrFun eF94 _) _).trans ((pUp_k (by decide)).trans ?_); refine (congrFun (congrFun eF93 _) _).trans ((pUp_k (by decide)).trans ?_); refine (congrFun (congrFun eF92 _) _).trans ((pUp_a (by decide)).trans ?_); refine (congrFun (congrFun eF91 _) _).trans ((pUp_a (by decide)).trans ?_); refine (congrFun (congrFun eF90 _) _).trans ((pUp_a (by decide)).trans ?_); refine (congrFun (congrFun eF89 _) _).trans ((pUp_a (by decide)).trans ?_); refine (congrFun (congrFun eF88 _) _).trans ((pUp_a (by decide)).trans ?_); refine (congrFun (congrFun eF87 _) _).trans ((pUp_a (by decide)).trans ?_); refine (congrFun (congrFun eF86 _) _).trans ((pUp_a (by decide)).trans ?_); refine (congrFun (congrFun eF84 _) _).trans ((pUp_a (by decide)).trans ?_); refine (congrFun (congrFun eF82 _) _).trans ((congrFun (pRow_ne (by decide)) _).trans ?_); refine (congrFun (congrFun eF81 _) _).trans ((pUp_a (by decide)).trans ?_); refine (congrFun (congrFun eF80 _) _).trans ((pUp_a (by decide)).trans ?_); refine (congrFun (congrFun eF78 _) _).trans ((pUp_a (by decide)).trans ?_); refine (congrFun (congrFun eF76 _) _).trans ((pUp_a (by decide)).trans ?_); refine (congrFun (congrFun eF74 _) _).trans ((pUp_a (by decide)).trans ?_); refine (congrFun (congrFun eF73 _) _).trans ((pUp_a (by decide)).trans ?_); refine (congrFun (congrFun eF72 _) _).trans ((pUp_a (by decide)).trans ?_); refine (congrFun (congrFun eF70 _) _).trans ((congrFun (pRow_ne (by decide)) _).trans ?_); refine (congrFun (congrFun eF69 _) _).trans ((congrFun (pRow_ne (by decide)) _).trans ?_); refine (congrFun (congrFun eF68 _) _).trans ((congrFun (pRow_ne (by decide)) _).trans ?_); refine (congrFun (congrFun eF67 _) _).trans ((pUp_k (by decide)).trans ?_); refine (congrFun (congrFun eF66 _) _).trans ((pUp_k (by decide)).trans ?_); refine (congrFun (congrFun eF59 _) _).trans ((pUp_a (by decide)).trans ?_); refine (congrFun (congrFun eF57 _) _).trans ((congrFun (pRow_ne (by decide)) _).trans ?_); refine (congrFun (congrFun eF56 _) _).trans ((pUp_k (by decide)).trans ?_); refine (congrFun (congrFun eF49 _) _).trans ((pUp_a (by decide)).trans ?_); refine (congrFun (congrFun eF47 _) _).trans ((congrFun (pRow_ne (by decide)) _).trans ?_); refine (congrFun (congrFun eF46 _) _).trans ((pUp_k (by decide)).trans ?_); refine (congrFun (congrFun eF45 _) _).trans ((pUp_a (by decide)).trans ?_); refine (congrFun (congrFun eF44 _) _).trans ((pUp_a (by decide)).trans ?_); refine (congrFun (congrFun eF43 _) _).trans ((pUp_a (by decide)).trans ?_); refine (congrFun (congrFun eF41 _) _).trans ((pUp_a (by decide)).trans ?_); refine (congrFun (congrFun eF39 _) _).trans ((congrFun (pRow_ne (by decide)) _).trans ?_); refine (congrFun (congrFun eF38 _) _).trans ((pUp_k (by decide)).trans ?_); refine (congrFun (congrFun eF37 _) _).trans ((pUp_a (by decide)).trans ?_); refine (congrFun (congrFun eF36 _) _).trans ((pUp_a (by decide)).trans ?_); refine (congrFun (congrFun eF35 _) _).trans ((pUp_a (by decide)).trans ?_); refine (congrFun (congrFun eF33 _) _).trans ((pUp_a (by decide)).trans ?_); refine (congrFun (congrFun eF31 _) _).trans ((congrFun (pRow_ne (by decide)) _).trans ?_); refine (congrFun (congrFun eF30 _) _).trans ((pUp_k (by decide)).trans ?_); exact (congrFun (congrFun eF28 _) _).trans pUp_s) ?_
  refine s_iload_n (q := 186) 92 0 rfl rfl ?_
  refine n_new (q := 189) (a := 59) (n' := 60) 93 1 6 139 rfl (by decide) kX11_7 kin_1.1 kin_1.2 (by decide) ?_
  refine PW.nameF (fun F189 eF189 => ?_)
  replace h := h F189 eF189
  refine s_dup (q := 190) 94 rfl ?_
  refine s_callN (b' := (6, 139)) (N := mX1_init) (as := []) (st := [(2, 59), (0, 0 + 1), (2, 8)]) (q := 193) (d' := 1) 95 rfl uX1_init kX11_9 rfl (by decide) ?_
  show PW l G 1 mX1_init (6, 139) 0 [(0, (2, 59))] [] (60, pKt K 60, F189, E188) _
  refine s_aload_n (q := 1) 0 0 rfl rfl ?_
  refine s_obj (q := 4) 1 rfl kX1_3 (by decide) ?_
  refine s_aload_n (q := 5) 2 0 rfl rfl ?_
  refine n_new (q := 8) (a := 60) (n' := 61) 3 0 5 138 rfl (by decide) kX1_9 kin_0.1 kin_0.2 (by decide) ?_
  refine PW.nameF (fun F190 eF190 => ?_)
  replace h := h F190 eF190
  refine s_dup (q := 9) 4 rfl ?_
  refine s_callI (b' := (1, 117)) (N := mX0_init) (as := []) (st := [(2, 60), (2, 59)]) (q := 12) (d' := 0) 5 rfl uX0_init kX1_11 rfl (by decide) ?_
  show PW l G 0 mX0_init (1, 117) 0 [(0, (2, 60))] [] (61, pKt K 61, F190, E188) _
  refine s_aload_n (q := 1) 0 0 rfl rfl ?_
  refine s_obj (q := 4) 1 rfl kX0_3 (by decide) ?_
  refine s_aload_n (q := 5) 2 0 rfl rfl ?_
  refine s_bipush (q := 7) 3 rfl ?_
  refine n_newa (q := 9) (a := 61) (n' := 62) (z := 117) 4 0 0 0 rfl (by decide) kar_int (by decide) (by decide) ?_
  refine PW.nameE (fun E191 eE191 => ?_)
  replace h := h E191 eE191
  refine n_putf (q := 12) (jj := 0) 5 0 0 rfl kX0_11 (by rfl) (Or.inr (Or.inr (Or.inr (Or.inr ⟨_, rfl⟩)))) ?_
  refine PW.nameF (fun F192 eF192 => ?_)
  replace h := h F192 eF192
  refine s_iconst (q := 13) 6 rfl ?_
  refine s_istore_n (q := 14) (lv' := [(1, (0, 0)), (0, (2, 60))]) 7 rfl rfl ?_
  refine s_iload_n (q := 15) 8 0 rfl rfl ?_
  refine s_iconst (q := 16) 9 rfl ?_
  refine s_icmp_ge (q := 19) (tgt := 44) 10 rfl rfl (fun hb => absurd hb (by decide)) (fun _ => ?_)
  refine s_aload_n (q := 20) 11 1 rfl rfl ?_
  refine n_getf (q := 23) (jj := 0) 12 0 0 rfl kX0_11 (by rfl) ?_
  refine PW.top (b := 61) (by exact (congrFun (congrFun eF192 _) _).trans pUp_s) ?_
  refine s_iconst (q := 24) 13 rfl ?_
  refine s_iload_n (q := 25) 14 0 rfl rfl ?_
  refine n_iadd (q := 26) 15 rfl (by decide) ?_
  refine PW.top (b := 3) (by decide) ?_
  refine s_iconst (q := 27) 16 rfl ?_
  refine n_iast (q := 28) 17 rfl (by decide) (by rfl) ⟨by decide, (show 3 < ((117 : Nat) : Int) by decide)⟩ ?_
  refine PW.nameE (fun E193 eE193 => ?_)
  replace h := h E193 eE193
  refine s_aload_n (q := 29) 18 1 rfl rfl ?_
  refine n_getf (q := 32) (jj := 0) 19 0 0 rfl kX0_11 (by rfl) ?_
  refine PW.top (b := 61) (by exact (congrFun (congrFun eF192 _) _).trans pUp_s) ?_
  refine s_bipush (q := 34) 20 rfl ?_
  refine s_iload_n (q := 35) 21 0 rfl rfl ?_
  refine n_iadd (q := 36) 22 rfl (by decide) ?_
  refine PW.top (b := 6) (by decide) ?_
  refine s_iconst (q := 37) 23 rfl ?_
  refine n_iast (q := 38) 24 rfl (by decide) (by rfl) ⟨by decide, (show 6 < ((117 : Nat) : Int) by decide)⟩ ?_
  refine PW.nameE (fun E194 eE194 => ?_)
  replace h := h E194 eE194
  refine n_iinc (q := 41) (lv' := [(1, (0, 0 + 1)), (0, (2, 60))]) 25 0 rfl rfl (by decide) rfl ?_
  refine s_goto (tgt := 14) 26 rfl rfl ?_
  refine s_iload_n (q := 15) 8 0 rfl rfl ?_
  refine s_iconst (q := 16) 9 rfl ?_
  refine s_icmp_ge (q := 19) (tgt := 44) 10 rfl rfl (fun hb => absurd hb (by decide)) (fun _ => ?_)
  refine s_aload_n (q := 20) 11 1 rfl rfl ?_
  refine n_getf (q := 23) (jj := 0) 12 0 0 rfl kX0_11 (by rfl) ?_
  refine PW.top (b := 61) (by exact (congrFun (congrFun eF192 _) _).trans pUp_s) ?_
  refine s_iconst (q := 24) 13 rfl ?_
  refine s_iload_n (q := 25) 14 0 rfl rfl ?_
  refine n_iadd (q := 26) 15 rfl (by decide) ?_
  refine PW.top (b := 4) (by decide) ?_
  refine s_iconst (q := 27) 16 rfl ?_
  refine n_iast (q := 28) 17 rfl (by decide) (by rfl) ⟨by decide, (show 4 < ((117 : Nat) : Int) by decide)⟩ ?_
  refine PW.nameE (fun E195 eE195 => ?_)
  replace h := h E195 eE195
  refine s_aload_n (q := 29) 18 1 rfl rfl ?_
  refine n_getf (q := 32) (jj := 0) 19 0 0 rfl kX0_11 (by rfl) ?_
  refine PW.top (b := 61) (by exact (congrFun (congrFun eF192 _) _).trans pUp_s) ?_
  refine s_bipush (q := 34) 20 rfl ?_
  refine s_iload_n (q := 35) 21 0 rfl rfl ?_
  refine n_iadd (q := 36) 22 rfl (by decide) ?_
  refine PW.top (b := 7) (by decide) ?_
  refine s_iconst (q := 37) 23 rfl ?_
  refine n_iast (q := 38) 24 rfl (by decide) (by rfl) ⟨by decide, (show 7 < ((117 : Nat) : Int) by decide)⟩ ?_
  refine PW.nameE (fun E196 eE196 => ?_)
  replace h := h E196 eE196
  refine n_iinc (q := 41) (lv' := [(1, (0, 0 + 1 + 1)), (0, (2, 60))]) 25 0 rfl rfl (by decide) rfl ?_
  refine s_goto (tgt := 14) 26 rfl rfl ?_
  refine s_iload_n (q := 15) 8 0 rfl rfl ?_
  refine s_iconst (q := 16) 9 rfl ?_
  refine s_icmp_ge (q := 19) (tgt := 44) 10 rfl rfl (fun hb => absurd hb (by decide)) (fun _ => ?_)
  refine s_aload_n (q := 20) 11 1 rfl rfl ?_
  refine n_getf (q := 23) (jj := 0) 12 0 0 rfl kX0_11 (by rfl) ?_
  refine PW.top (b := 61) (by exact (congrFun (congrFun eF192 _) _).trans pUp_s) ?_
  refine s_iconst (q := 24) 13 rfl ?_
  refine s_iload_n (q := 25) 14 0 rfl rfl ?_
  refine n_iadd (q := 26) 15 rfl (by decide) ?_
  refine PW.top (b := 5) (by decide) ?_
  refine s_iconst (q := 27) 16 rfl ?_
  refine n_iast (q := 28) 17 rfl (by decide) (by rfl) ⟨by decide, (show 5 < ((117 : Nat) : Int) by decide)⟩ ?_
  refine PW.nameE (fun E197 eE197 => ?_)
  replace h := h E197 eE197
  refine s_aload_n (q := 29) 18 1 rfl rfl ?_
  refine n_getf (q := 32) (jj := 0) 19 0 0 rfl kX0_11 (by rfl) ?_
  refine PW.top (b := 61) (by exact (congrFun (congrFun eF192 _) _).trans pUp_s) ?_
  refine s_bipush (q := 34) 20 rfl ?_
  refine s_iload_n (q := 35) 21 0 rfl rfl ?_
  refine n_iadd (q := 36) 22 rfl (by decide) ?_
  refine PW.top (b := 8) (by decide) ?_
  refine s_iconst (q := 37) 23 rfl ?_
  refine n_iast (q := 38) 24 rfl (by decide) (by rfl) ⟨by decide, (show 8 < ((117 : Nat) : Int) by decide)⟩ ?_
  refine PW.nameE (fun E198 eE198 => ?_)
  replace h := h E198 eE198
  refine n_iinc (q := 41) (lv' := [(1, (0, 0 + 1 + 1 + 1)), (0, (2, 60))]) 25 0 rfl rfl (by decide) rfl ?_
  refine s_goto (tgt := 14) 26 rfl rfl ?_
  refine s_iload_n (q := 15) 8 0 rfl rfl ?_
  refine s_iconst (q := 16) 9 rfl ?_
  refine s_icmp_ge (q := 19) (tgt := 44) 10 rfl rfl (fun _ => ?_) (fun hb => absurd (by decide) hb)
  refine s_vret 27 rfl rfl ?_
  show PW l G 1 mX1_init (4, 21) 12 [(0, (2, 59))] [(2, 60), (2, 59)] (62, pKt K 62, F192, E198) _
  refine n_putf (q := 15) (jj := 0) 6 1 0 rfl kX1_12 (by rfl) (Or.inr (Or.inr (Or.inr (Or.inl ⟨_, rfl⟩)))) ?_
  refine PW.nameF (fun F199 eF199 => ?_)
  replace h := h F199 eF199
  refine s_aload_n (q := 16) 7 0 rfl rfl ?_
  refine s_iconst (q := 17) 8 rfl ?_
  refine n_newa (q := 19) (a := 62) (n' := 63) (z := 3) 9 0 3 18 rfl (by decide) kar_int (by decide) (by decide) ?_
  refine PW.nameE (fun E200 eE200 => ?_)
  replace h := h E200 eE200
  refine s_dup (q := 20) 10 rfl ?_
  refine s_iconst (q := 21) 11 rfl ?_
  refine s_sipush (q := 24) 12 rfl ?_
  refine n_iast (q := 25) 13 rfl (by decide) (by rfl) ⟨by decide, (show 0 < ((3 : Nat) : Int) by decide)⟩ ?_
  refine PW.nameE (fun E201 eE201 => ?_)
  replace h := h E201 eE201
  refine s_dup (q := 26) 14 rfl ?_
  refine s_iconst (q := 27) 15 rfl ?_
  refine s_iconst (q := 28) 16 rfl ?_
  refine n_iast (q := 29) 17 rfl (by decide) (by rfl) ⟨by decide, (show 1 < ((3 : Nat) : Int) by decide)⟩ ?_
  refine PW.nameE (fun E202 eE202 => ?_)
  replace h := h E202 eE202
  refine s_dup (q := 30) 18 rfl ?_
  refine s_iconst (q := 31) 19 rfl ?_
  refine s_iconst (q := 32) 20 rfl ?_
  refine n_iast (q := 33) 21 rfl (by decide) (by rfl) ⟨by decide, (show 2 < ((3 : Nat) : Int) by decide)⟩ ?_
  refine PW.nameE (fun E203 eE203 => ?_)
  replace h := h E203 eE203
  refine n_putf (q := 36) (jj := 1) 22 1 1 rfl kX1_18 (by rfl) (Or.inr (Or.inr (Or.inr (Or.inr ⟨_, rfl⟩)))) ?_
  refine PW.nameF (fun F204 eF204 => ?_)
  replace h := h F204 eF204
  refine s_aload_n (q := 37) 23 0 rfl rfl ?_
  refine s_bipush (q := 39) 24 rfl ?_
  refine n_newa (q := 41) (a := 63) (n' := 64) (z := 6) 25 0 2 12 rfl (by decide) kar_int (by decide) (by decide) ?_
  refine PW.nameE (fun E205 eE205 => ?_)
  replace h := h E205 eE205
  refine n_putf (q := 44) (jj := 2) 26 1 2 rfl kX1_22 (by rfl) (Or.inr (Or.inr (Or.inr (Or.inr ⟨_, rfl⟩)))) ?_
  refine PW.nameF (fun F206 eF206 => ?_)
  replace h := h F206 eF206
  refine s_aload_n (q := 45) 27 0 rfl rfl ?_
  refine s_bipush (q := 47) 28 rfl ?_
  refine n_newa (q := 49) (a := 64) (n' := 65) (z := 6) 29 0 1 6 rfl (by decide) kar_int (by decide) (by decide) ?_
  refine PW.nameE (fun E207 eE207 => ?_)
  replace h := h E207 eE207
  refine n_putf (q := 52) (jj := 3) 30 1 3 rfl kX1_25 (by rfl) (Or.inr (Or.inr (Or.inr (Or.inr ⟨_, rfl⟩)))) ?_
  refine PW.nameF (fun F208 eF208 => ?_)
  replace h := h F208 eF208
  refine s_aload_n (q := 53) 31 0 rfl rfl ?_
  refine s_iconst (q := 54) 32 rfl ?_
  refine n_putf (q := 57) (jj := 4) 33 1 4 rfl kX1_28 (by rfl) (Or.inl rfl) ?_
  refine PW.nameF (fun F209 eF209 => ?_)
  replace h := h F209 eF209
  refine s_aload_n (q := 58) 34 0 rfl rfl ?_
  refine s_bipush (q := 60) 35 rfl ?_
  refine n_newq (q := 63) (a := 65) (n' := 66) (z := 6) 36 5 0 0 rfl (by decide) kX1_32 kao_Text (by decide) (by decide) ?_
  refine PW.nameE (fun E210 eE210 => ?_)
  replace h := h E210 eE210
  refine n_putf (q := 66) (jj := 5) 37 1 5 rfl kX1_34 (by rfl) (Or.inr (Or.inr (Or.inr (Or.inr ⟨_, rfl⟩)))) ?_
  refine PW.nameF (fun F211 eF211 => ?_)
  replace h := h F211 eF211
  refine s_aload_n (q := 67) 38 0 rfl rfl ?_
  refine s_iconst (q := 68) 39 rfl ?_
  refine n_putf (q := 71) (jj := 6) 40 1 6 rfl kX1_38 (by rfl) (Or.inl rfl) ?_
  refine PW.nameF (fun F212 eF212 => ?_)
  replace h := h F212 eF212
  refine s_aload_n (q := 72) 41 0 rfl rfl ?_
  refine s_iconst (q := 73) 42 rfl ?_
  refine n_putf (q := 76) (jj := 7) 43 1 7 rfl kX1_41 (by rfl) (Or.inl rfl) ?_
  refine PW.nameF (fun F213 eF213 => ?_)
  replace h := h F213 eF213
  refine s_vret 44 rfl rfl ?_
  show PW l G 3 mX11_init (0, 0) 193 [(1, (0, 0 + 1)), (0, (2, 0))] [(2, 59), (0, 0 + 1), (2, 8)] (66, pKt K 66, F213, E210) Q
  refine n_aast (q := 194) 96 4 rfl (by decide) (by rfl) ⟨by decide, (show 0 + 1 < ((2 : Nat) : Int) by decide)⟩ (Or.inr rfl) ?_
  refine PW.nameE (fun E214 eE214 => ?_)
  replace h := h E214 eE214
  refine n_iinc (q := 197) (lv' := [(1, (0, 0 + 1 + 1)), (0, (2, 0))]) 97 0 rfl rfl (by decide) rfl ?_
  refine s_goto (tgt := 176) 98 rfl rfl ?_
  refine s_iload_n (q := 177) 87 0 rfl rfl ?_
  refine s_iconst (q := 178) 88 rfl ?_
  refine s_icmp_ge (q := 181) (tgt := 200) 89 rfl rfl (fun _ => ?_) (fun hb => absurd (by decide) hb)
  exact s_vret 99 rfl rfl h
