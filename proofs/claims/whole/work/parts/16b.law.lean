set_option maxRecDepth 100000 in
theorem vL_law_1382 {l : Launch} {G : pG} {bg : Nat × Nat} {n : Nat} {K : Int → Nat × Nat} {F E : Int → Int → Int} {Q : Option pV → pM → Prop} (x0 x1 x2 x3 : Int) (h : (-2147483648 ≤ x3 + 6 ∧ x3 + 6 < 2147483648) ∧ PW l G 84 mL_law bg 18 [(0, (2, x0)), (1, (2, x1)), (2, (2, x2)), (3, (0, x3 + 6))] [] (n, K, F, E) Q) : PW l G 84 mL_law bg 1382 [(0, (2, x0)), (1, (2, x1)), (2, (2, x2)), (3, (0, x3))] [] (n, K, F, E) Q := by
  obtain ⟨c1, h⟩ := h
  refine n_iinc (q := 1385) (lv' := [(3, (0, x3 + 6)), (0, (2, x0)), (1, (2, x1)), (2, (2, x2))]) 966 3 rfl rfl c1 rfl ?_
  refine s_goto (tgt := 18) 967 rfl rfl ?_
  refine PW.pick [1, 2, 3, 0] rfl ?_
  exact h
set_option maxRecDepth 100000 in
theorem vL_law_228 {l : Launch} {G : pG} {bg : Nat × Nat} {n : Nat} {K : Int → Nat × Nat} {F E : Int → Int → Int} {Q : Option pV → pM → Prop} (x0 x1 x2 x3 s0 : Int) (h : (-2147483648 ≤ x3 + 1 ∧ x3 + 1 < 2147483648) ∧ (K x0).1 = 20 ∧ ((0 : Int) ≤ x3 + 1 ∧ x3 + 1 < ((K x0).2 : Int)) ∧ (-2147483648 ≤ x3 + 2 ∧ x3 + 2 < 2147483648) ∧ ((0 : Int) ≤ x3 + 2 ∧ x3 + 2 < ((K x0).2 : Int)) ∧ (-2147483648 ≤ x3 + 3 ∧ x3 + 3 < 2147483648) ∧ ((0 : Int) ≤ x3 + 3 ∧ x3 + 3 < ((K x0).2 : Int)) ∧ (-2147483648 ≤ x3 + 4 ∧ x3 + 4 < 2147483648) ∧ ((0 : Int) ≤ x3 + 4 ∧ x3 + 4 < ((K x0).2 : Int)) ∧ (K x2).1 = 12 ∧ PC l G 3 mX12_join (0, 0) [(2, x2), (0, E x0 (x3 + 1)), (0, E x0 (x3 + 2)), (0, E x0 (x3 + 3)), (0, E x0 (x3 + 4))] (n, K, F, E) (fun r μ => PW l G 84 mL_law bg 252 [(0, (2, x0)), (1, (2, x1)), (2, (2, x2)), (3, (0, x3))] (r.toList ++ [(0, s0)]) μ Q)) : PW l G 84 mL_law bg 228 [(0, (2, x0)), (1, (2, x1)), (2, (2, x2)), (3, (0, x3))] [(0, s0)] (n, K, F, E) Q := by
  refine s_aload_n (q := 229) 44 2 rfl rfl ?_
  refine s_aload_n (q := 230) 45 0 rfl rfl ?_
  refine s_iload_n (q := 231) 46 3 rfl rfl ?_
  refine s_iconst (q := 232) 47 rfl ?_
  obtain ⟨c1, h⟩ := h
  refine n_iadd (q := 233) 48 rfl c1 ?_
  obtain ⟨c2, h⟩ := h
  obtain ⟨c3, h⟩ := h
  refine n_iald (q := 234) 49 rfl c2 c3 ?_
  refine s_aload_n (q := 235) 50 0 rfl rfl ?_
  refine s_iload_n (q := 236) 51 3 rfl rfl ?_
  refine s_iconst (q := 237) 52 rfl ?_
  obtain ⟨c4, h⟩ := h
  refine n_iadd (q := 238) 53 rfl c4 ?_
  obtain ⟨c5, h⟩ := h
  refine n_iald (q := 239) 54 rfl c2 c5 ?_
  refine s_aload_n (q := 240) 55 0 rfl rfl ?_
  refine s_iload_n (q := 241) 56 3 rfl rfl ?_
  refine s_iconst (q := 242) 57 rfl ?_
  obtain ⟨c6, h⟩ := h
  refine n_iadd (q := 243) 58 rfl c6 ?_
  obtain ⟨c7, h⟩ := h
  refine n_iald (q := 244) 59 rfl c2 c7 ?_
  refine s_aload_n (q := 245) 60 0 rfl rfl ?_
  refine s_iload_n (q := 246) 61 3 rfl rfl ?_
  refine s_iconst (q := 247) 62 rfl ?_
  obtain ⟨c8, h⟩ := h
  refine n_iadd (q := 248) 63 rfl c8 ?_
  obtain ⟨c9, h⟩ := h
  refine n_iald (q := 249) 64 rfl c2 c9 ?_
  obtain ⟨c10, h⟩ := h
  refine PW.pick [0, 1, 2, 3] rfl ?_
  exact n_callV (N := mX12_join) (as := [(0, E x0 (x3 + 1)), (0, E x0 (x3 + 2)), (0, E x0 (x3 + 3)), (0, E x0 (x3 + 4))]) (st := [(0, s0)]) (q := 252) (d' := 3) 65 rfl uX12_join kL_17 rfl c10 h
set_option maxRecDepth 100000 in
theorem vL_law_281 {l : Launch} {G : pG} {bg : Nat × Nat} {n : Nat} {K : Int → Nat × Nat} {F E : Int → Int → Int} {Q : Option pV → pM → Prop} (x0 x1 x2 x3 s0 : Int) (h : (-2147483648 ≤ x3 + 1 ∧ x3 + 1 < 2147483648) ∧ (K x0).1 = 20 ∧ ((0 : Int) ≤ x3 + 1 ∧ x3 + 1 < ((K x0).2 : Int)) ∧ (-2147483648 ≤ x3 + 2 ∧ x3 + 2 < 2147483648) ∧ ((0 : Int) ≤ x3 + 2 ∧ x3 + 2 < ((K x0).2 : Int)) ∧ (-2147483648 ≤ x3 + 3 ∧ x3 + 3 < 2147483648) ∧ ((0 : Int) ≤ x3 + 3 ∧ x3 + 3 < ((K x0).2 : Int)) ∧ (-2147483648 ≤ x3 + 4 ∧ x3 + 4 < 2147483648) ∧ ((0 : Int) ≤ x3 + 4 ∧ x3 + 4 < ((K x0).2 : Int)) ∧ (K x2).1 = 12 ∧ PC l G 3 mX12_filter (0, 0) [(2, x2), (0, E x0 (x3 + 1)), (0, E x0 (x3 + 2)), (0, E x0 (x3 + 3)), (0, E x0 (x3 + 4))] (n, K, F, E) (fun r μ => PW l G 84 mL_law bg 305 [(0, (2, x0)), (1, (2, x1)), (2, (2, x2)), (3, (0, x3))] (r.toList ++ [(0, s0)]) μ Q)) : PW l G 84 mL_law bg 281 [(0, (2, x0)), (1, (2, x1)), (2, (2, x2)), (3, (0, x3))] [(0, s0)] (n, K, F, E) Q := by
  refine s_aload_n (q := 282) 91 2 rfl rfl ?_
  refine s_aload_n (q := 283) 92 0 rfl rfl ?_
  refine s_iload_n (q := 284) 93 3 rfl rfl ?_
  refine s_iconst (q := 285) 94 rfl ?_
  obtain ⟨c1, h⟩ := h
  refine n_iadd (q := 286) 95 rfl c1 ?_
  obtain ⟨c2, h⟩ := h
  obtain ⟨c3, h⟩ := h
  refine n_iald (q := 287) 96 rfl c2 c3 ?_
  refine s_aload_n (q := 288) 97 0 rfl rfl ?_
  refine s_iload_n (q := 289) 98 3 rfl rfl ?_
  refine s_iconst (q := 290) 99 rfl ?_
  obtain ⟨c4, h⟩ := h
  refine n_iadd (q := 291) 100 rfl c4 ?_
  obtain ⟨c5, h⟩ := h
  refine n_iald (q := 292) 101 rfl c2 c5 ?_
  refine s_aload_n (q := 293) 102 0 rfl rfl ?_
  refine s_iload_n (q := 294) 103 3 rfl rfl ?_
  refine s_iconst (q := 295) 104 rfl ?_
  obtain ⟨c6, h⟩ := h
  refine n_iadd (q := 296) 105 rfl c6 ?_
  obtain ⟨c7, h⟩ := h
  refine n_iald (q := 297) 106 rfl c2 c7 ?_
  refine s_aload_n (q := 298) 107 0 rfl rfl ?_
  refine s_iload_n (q := 299) 108 3 rfl rfl ?_
  refine s_iconst (q := 300) 109 rfl ?_
  obtain ⟨c8, h⟩ := h
  refine n_iadd (q := 301) 110 rfl c8 ?_
  obtain ⟨c9, h⟩ := h
  refine n_iald (q := 302) 111 rfl c2 c9 ?_
  obtain ⟨c10, h⟩ := h
  refine PW.pick [0, 1, 2, 3] rfl ?_
  exact n_callV (N := mX12_filter) (as := [(0, E x0 (x3 + 1)), (0, E x0 (x3 + 2)), (0, E x0 (x3 + 3)), (0, E x0 (x3 + 4))]) (st := [(0, s0)]) (q := 305) (d' := 3) 112 rfl uX12_filter kL_21 rfl c10 h
set_option maxRecDepth 100000 in
theorem vL_law_324 {l : Launch} {G : pG} {bg : Nat × Nat} {n : Nat} {K : Int → Nat × Nat} {F E : Int → Int → Int} {Q : Option pV → pM → Prop} (x0 x1 x2 x3 s0 : Int) (h : (-2147483648 ≤ x3 + 1 ∧ x3 + 1 < 2147483648) ∧ (K x0).1 = 20 ∧ ((0 : Int) ≤ x3 + 1 ∧ x3 + 1 < ((K x0).2 : Int)) ∧ (-2147483648 ≤ x3 + 2 ∧ x3 + 2 < 2147483648) ∧ ((0 : Int) ≤ x3 + 2 ∧ x3 + 2 < ((K x0).2 : Int)) ∧ (K x2).1 = 12 ∧ PC l G 2 mX12_operator (0, 0) [(2, x2), (0, E x0 (x3 + 1)), (0, E x0 (x3 + 2))] (n, K, F, E) (fun r μ => PW l G 84 mL_law bg 338 [(0, (2, x0)), (1, (2, x1)), (2, (2, x2)), (3, (0, x3))] (r.toList ++ [(0, s0)]) μ Q)) : PW l G 84 mL_law bg 324 [(0, (2, x0)), (1, (2, x1)), (2, (2, x2)), (3, (0, x3))] [(0, s0)] (n, K, F, E) Q := by
  refine s_aload_n (q := 325) 128 2 rfl rfl ?_
  refine s_aload_n (q := 326) 129 0 rfl rfl ?_
  refine s_iload_n (q := 327) 130 3 rfl rfl ?_
  refine s_iconst (q := 328) 131 rfl ?_
  obtain ⟨c1, h⟩ := h
  refine n_iadd (q := 329) 132 rfl c1 ?_
  obtain ⟨c2, h⟩ := h
  obtain ⟨c3, h⟩ := h
  refine n_iald (q := 330) 133 rfl c2 c3 ?_
  refine s_aload_n (q := 331) 134 0 rfl rfl ?_
  refine s_iload_n (q := 332) 135 3 rfl rfl ?_
  refine s_iconst (q := 333) 136 rfl ?_
  obtain ⟨c4, h⟩ := h
  refine n_iadd (q := 334) 137 rfl c4 ?_
  obtain ⟨c5, h⟩ := h
  refine n_iald (q := 335) 138 rfl c2 c5 ?_
  obtain ⟨c6, h⟩ := h
  refine PW.pick [0, 1, 2, 3] rfl ?_
  exact n_callV (N := mX12_operator) (as := [(0, E x0 (x3 + 1)), (0, E x0 (x3 + 2))]) (st := [(0, s0)]) (q := 338) (d' := 2) 139 rfl uX12_operator kL_26 rfl c6 h
set_option maxRecDepth 100000 in
theorem vL_law_357 {l : Launch} {G : pG} {bg : Nat × Nat} {n : Nat} {K : Int → Nat × Nat} {F E : Int → Int → Int} {Q : Option pV → pM → Prop} (x0 x1 x2 x3 s0 : Int) (h : (-2147483648 ≤ x3 + 1 ∧ x3 + 1 < 2147483648) ∧ (K x0).1 = 20 ∧ ((0 : Int) ≤ x3 + 1 ∧ x3 + 1 < ((K x0).2 : Int)) ∧ (-2147483648 ≤ x3 + 2 ∧ x3 + 2 < 2147483648) ∧ ((0 : Int) ≤ x3 + 2 ∧ x3 + 2 < ((K x0).2 : Int)) ∧ (K x2).1 = 12 ∧ PC l G 2 mX12_relation (0, 0) [(2, x2), (0, E x0 (x3 + 1)), (0, E x0 (x3 + 2))] (n, K, F, E) (fun r μ => PW l G 84 mL_law bg 371 [(0, (2, x0)), (1, (2, x1)), (2, (2, x2)), (3, (0, x3))] (r.toList ++ [(0, s0)]) μ Q)) : PW l G 84 mL_law bg 357 [(0, (2, x0)), (1, (2, x1)), (2, (2, x2)), (3, (0, x3))] [(0, s0)] (n, K, F, E) Q := by
  refine s_aload_n (q := 358) 155 2 rfl rfl ?_
  refine s_aload_n (q := 359) 156 0 rfl rfl ?_
  refine s_iload_n (q := 360) 157 3 rfl rfl ?_
  refine s_iconst (q := 361) 158 rfl ?_
  obtain ⟨c1, h⟩ := h
  refine n_iadd (q := 362) 159 rfl c1 ?_
  obtain ⟨c2, h⟩ := h
  obtain ⟨c3, h⟩ := h
  refine n_iald (q := 363) 160 rfl c2 c3 ?_
  refine s_aload_n (q := 364) 161 0 rfl rfl ?_
  refine s_iload_n (q := 365) 162 3 rfl rfl ?_
  refine s_iconst (q := 366) 163 rfl ?_
  obtain ⟨c4, h⟩ := h
  refine n_iadd (q := 367) 164 rfl c4 ?_
  obtain ⟨c5, h⟩ := h
  refine n_iald (q := 368) 165 rfl c2 c5 ?_
  obtain ⟨c6, h⟩ := h
  refine PW.pick [0, 1, 2, 3] rfl ?_
  exact n_callV (N := mX12_relation) (as := [(0, E x0 (x3 + 1)), (0, E x0 (x3 + 2))]) (st := [(0, s0)]) (q := 371) (d' := 2) 166 rfl uX12_relation kL_30 rfl c6 h
set_option maxRecDepth 100000 in
theorem vL_law_395 {l : Launch} {G : pG} {bg : Nat × Nat} {n : Nat} {K : Int → Nat × Nat} {F E : Int → Int → Int} {Q : Option pV → pM → Prop} (x0 x1 x2 x3 s0 : Int) (h : (-2147483648 ≤ x3 + 1 ∧ x3 + 1 < 2147483648) ∧ (K x0).1 = 20 ∧ ((0 : Int) ≤ x3 + 1 ∧ x3 + 1 < ((K x0).2 : Int)) ∧ (-2147483648 ≤ x3 + 2 ∧ x3 + 2 < 2147483648) ∧ ((0 : Int) ≤ x3 + 2 ∧ x3 + 2 < ((K x0).2 : Int)) ∧ (-2147483648 ≤ x3 + 3 ∧ x3 + 3 < 2147483648) ∧ ((0 : Int) ≤ x3 + 3 ∧ x3 + 3 < ((K x0).2 : Int)) ∧ (K x2).1 = 12 ∧ PC l G 2 mX12_tuple (0, 0) [(2, x2), (0, E x0 (x3 + 1)), (0, E x0 (x3 + 2)), (0, E x0 (x3 + 3))] (n, K, F, E) (fun r μ => PW l G 84 mL_law bg 414 [(0, (2, x0)), (1, (2, x1)), (2, (2, x2)), (3, (0, x3))] (r.toList ++ [(0, s0)]) μ Q)) : PW l G 84 mL_law bg 395 [(0, (2, x0)), (1, (2, x1)), (2, (2, x2)), (3, (0, x3))] [(0, s0)] (n, K, F, E) Q := by
  refine s_aload_n (q := 396) 187 2 rfl rfl ?_
  refine s_aload_n (q := 397) 188 0 rfl rfl ?_
  refine s_iload_n (q := 398) 189 3 rfl rfl ?_
  refine s_iconst (q := 399) 190 rfl ?_
  obtain ⟨c1, h⟩ := h
  refine n_iadd (q := 400) 191 rfl c1 ?_
  obtain ⟨c2, h⟩ := h
  obtain ⟨c3, h⟩ := h
  refine n_iald (q := 401) 192 rfl c2 c3 ?_
  refine s_aload_n (q := 402) 193 0 rfl rfl ?_
  refine s_iload_n (q := 403) 194 3 rfl rfl ?_
  refine s_iconst (q := 404) 195 rfl ?_
  obtain ⟨c4, h⟩ := h
  refine n_iadd (q := 405) 196 rfl c4 ?_
  obtain ⟨c5, h⟩ := h
  refine n_iald (q := 406) 197 rfl c2 c5 ?_
  refine s_aload_n (q := 407) 198 0 rfl rfl ?_
  refine s_iload_n (q := 408) 199 3 rfl rfl ?_
  refine s_iconst (q := 409) 200 rfl ?_
  obtain ⟨c6, h⟩ := h
  refine n_iadd (q := 410) 201 rfl c6 ?_
  obtain ⟨c7, h⟩ := h
  refine n_iald (q := 411) 202 rfl c2 c7 ?_
  obtain ⟨c8, h⟩ := h
  refine PW.pick [0, 1, 2, 3] rfl ?_
  exact n_callV (N := mX12_tuple) (as := [(0, E x0 (x3 + 1)), (0, E x0 (x3 + 2)), (0, E x0 (x3 + 3))]) (st := [(0, s0)]) (q := 414) (d' := 2) 203 rfl uX12_tuple kL_35 rfl c8 h
set_option maxRecDepth 100000 in
theorem vL_law_433 {l : Launch} {G : pG} {bg : Nat × Nat} {n : Nat} {K : Int → Nat × Nat} {F E : Int → Int → Int} {Q : Option pV → pM → Prop} (x0 x1 x2 x3 s0 : Int) (h : (-2147483648 ≤ x3 + 1 ∧ x3 + 1 < 2147483648) ∧ (K x0).1 = 20 ∧ ((0 : Int) ≤ x3 + 1 ∧ x3 + 1 < ((K x0).2 : Int)) ∧ (-2147483648 ≤ x3 + 2 ∧ x3 + 2 < 2147483648) ∧ ((0 : Int) ≤ x3 + 2 ∧ x3 + 2 < ((K x0).2 : Int)) ∧ (K x2).1 = 12 ∧ PC l G 1 mX12_terms (0, 0) [(2, x2), (0, E x0 (x3 + 1)), (0, E x0 (x3 + 2))] (n, K, F, E) (fun r μ => PW l G 84 mL_law bg 447 [(0, (2, x0)), (1, (2, x1)), (2, (2, x2)), (3, (0, x3))] (r.toList ++ [(0, s0)]) μ Q)) : PW l G 84 mL_law bg 433 [(0, (2, x0)), (1, (2, x1)), (2, (2, x2)), (3, (0, x3))] [(0, s0)] (n, K, F, E) Q := by
  refine s_aload_n (q := 434) 219 2 rfl rfl ?_
  refine s_aload_n (q := 435) 220 0 rfl rfl ?_
  refine s_iload_n (q := 436) 221 3 rfl rfl ?_
  refine s_iconst (q := 437) 222 rfl ?_
  obtain ⟨c1, h⟩ := h
  refine n_iadd (q := 438) 223 rfl c1 ?_
  obtain ⟨c2, h⟩ := h
  obtain ⟨c3, h⟩ := h
  refine n_iald (q := 439) 224 rfl c2 c3 ?_
  refine s_aload_n (q := 440) 225 0 rfl rfl ?_
  refine s_iload_n (q := 441) 226 3 rfl rfl ?_
  refine s_iconst (q := 442) 227 rfl ?_
  obtain ⟨c4, h⟩ := h
  refine n_iadd (q := 443) 228 rfl c4 ?_
  obtain ⟨c5, h⟩ := h
  refine n_iald (q := 444) 229 rfl c2 c5 ?_
  obtain ⟨c6, h⟩ := h
  refine PW.pick [0, 1, 2, 3] rfl ?_
  exact n_callV (N := mX12_terms) (as := [(0, E x0 (x3 + 1)), (0, E x0 (x3 + 2))]) (st := [(0, s0)]) (q := 447) (d' := 1) 230 rfl uX12_terms kL_39 rfl c6 h
set_option maxRecDepth 100000 in
theorem vL_law_481 {l : Launch} {G : pG} {bg : Nat × Nat} {n : Nat} {K : Int → Nat × Nat} {F E : Int → Int → Int} {Q : Option pV → pM → Prop} (x0 x1 x2 x3 s0 : Int) (h : (-2147483648 ≤ x3 + 1 ∧ x3 + 1 < 2147483648) ∧ (K x0).1 = 20 ∧ ((0 : Int) ≤ x3 + 1 ∧ x3 + 1 < ((K x0).2 : Int)) ∧ (-2147483648 ≤ x3 + 2 ∧ x3 + 2 < 2147483648) ∧ ((0 : Int) ≤ x3 + 2 ∧ x3 + 2 < ((K x0).2 : Int)) ∧ (-2147483648 ≤ x3 + 3 ∧ x3 + 3 < 2147483648) ∧ ((0 : Int) ≤ x3 + 3 ∧ x3 + 3 < ((K x0).2 : Int)) ∧ (-2147483648 ≤ x3 + 4 ∧ x3 + 4 < 2147483648) ∧ ((0 : Int) ≤ x3 + 4 ∧ x3 + 4 < ((K x0).2 : Int)) ∧ (-2147483648 ≤ x3 + 5 ∧ x3 + 5 < 2147483648) ∧ ((0 : Int) ≤ x3 + 5 ∧ x3 + 5 < ((K x0).2 : Int)) ∧ (K x2).1 = 12 ∧ PC l G 1 mX12_feed (0, 0) [(2, x2), (0, E x0 (x3 + 1)), (0, E x0 (x3 + 2)), (0, E x0 (x3 + 3)), (0, E x0 (x3 + 4)), (0, E x0 (x3 + 5))] (n, K, F, E) (fun r μ => PW l G 84 mL_law bg 510 [(0, (2, x0)), (1, (2, x1)), (2, (2, x2)), (3, (0, x3))] (r.toList ++ [(0, s0)]) μ Q)) : PW l G 84 mL_law bg 481 [(0, (2, x0)), (1, (2, x1)), (2, (2, x2)), (3, (0, x3))] [(0, s0)] (n, K, F, E) Q := by
  refine s_aload_n (q := 482) 261 2 rfl rfl ?_
  refine s_aload_n (q := 483) 262 0 rfl rfl ?_
  refine s_iload_n (q := 484) 263 3 rfl rfl ?_
  refine s_iconst (q := 485) 264 rfl ?_
  obtain ⟨c1, h⟩ := h
  refine n_iadd (q := 486) 265 rfl c1 ?_
  obtain ⟨c2, h⟩ := h
  obtain ⟨c3, h⟩ := h
  refine n_iald (q := 487) 266 rfl c2 c3 ?_
  refine s_aload_n (q := 488) 267 0 rfl rfl ?_
  refine s_iload_n (q := 489) 268 3 rfl rfl ?_
  refine s_iconst (q := 490) 269 rfl ?_
  obtain ⟨c4, h⟩ := h
  refine n_iadd (q := 491) 270 rfl c4 ?_
  obtain ⟨c5, h⟩ := h
  refine n_iald (q := 492) 271 rfl c2 c5 ?_
  refine s_aload_n (q := 493) 272 0 rfl rfl ?_
  refine s_iload_n (q := 494) 273 3 rfl rfl ?_
  refine s_iconst (q := 495) 274 rfl ?_
  obtain ⟨c6, h⟩ := h
  refine n_iadd (q := 496) 275 rfl c6 ?_
  obtain ⟨c7, h⟩ := h
  refine n_iald (q := 497) 276 rfl c2 c7 ?_
  refine s_aload_n (q := 498) 277 0 rfl rfl ?_
  refine s_iload_n (q := 499) 278 3 rfl rfl ?_
  refine s_iconst (q := 500) 279 rfl ?_
  obtain ⟨c8, h⟩ := h
  refine n_iadd (q := 501) 280 rfl c8 ?_
  obtain ⟨c9, h⟩ := h
  refine n_iald (q := 502) 281 rfl c2 c9 ?_
  refine s_aload_n (q := 503) 282 0 rfl rfl ?_
  refine s_iload_n (q := 504) 283 3 rfl rfl ?_
  refine s_iconst (q := 505) 284 rfl ?_
  obtain ⟨c10, h⟩ := h
  refine n_iadd (q := 506) 285 rfl c10 ?_
  obtain ⟨c11, h⟩ := h
  refine n_iald (q := 507) 286 rfl c2 c11 ?_
  obtain ⟨c12, h⟩ := h
  refine PW.pick [0, 1, 2, 3] rfl ?_
  exact n_callV (N := mX12_feed) (as := [(0, E x0 (x3 + 1)), (0, E x0 (x3 + 2)), (0, E x0 (x3 + 3)), (0, E x0 (x3 + 4)), (0, E x0 (x3 + 5))]) (st := [(0, s0)]) (q := 510) (d' := 1) 287 rfl uX12_feed kL_44 rfl c12 h
set_option maxRecDepth 100000 in
theorem vL_law_524 {l : Launch} {G : pG} {bg : Nat × Nat} {n : Nat} {K : Int → Nat × Nat} {F E : Int → Int → Int} {Q : Option pV → pM → Prop} (x0 x1 x2 x3 s0 : Int) (h : (-2147483648 ≤ x3 + 1 ∧ x3 + 1 < 2147483648) ∧ (K x0).1 = 20 ∧ ((0 : Int) ≤ x3 + 1 ∧ x3 + 1 < ((K x0).2 : Int)) ∧ (K x2).1 = 12 ∧ PC l G 0 mX12_end (0, 0) [(2, x2), (0, E x0 (x3 + 1))] (n, K, F, E) (fun r μ => PW l G 84 mL_law bg 533 [(0, (2, x0)), (1, (2, x1)), (2, (2, x2)), (3, (0, x3))] (r.toList ++ [(0, s0)]) μ Q)) : PW l G 84 mL_law bg 524 [(0, (2, x0)), (1, (2, x1)), (2, (2, x2)), (3, (0, x3))] [(0, s0)] (n, K, F, E) Q := by
  refine s_aload_n (q := 525) 298 2 rfl rfl ?_
  refine s_aload_n (q := 526) 299 0 rfl rfl ?_
  refine s_iload_n (q := 527) 300 3 rfl rfl ?_
  refine s_iconst (q := 528) 301 rfl ?_
  obtain ⟨c1, h⟩ := h
  refine n_iadd (q := 529) 302 rfl c1 ?_
  obtain ⟨c2, h⟩ := h
  obtain ⟨c3, h⟩ := h
  refine n_iald (q := 530) 303 rfl c2 c3 ?_
  obtain ⟨c4, h⟩ := h
  refine PW.pick [0, 1, 2, 3] rfl ?_
  exact n_callV (N := mX12_end) (as := [(0, E x0 (x3 + 1))]) (st := [(0, s0)]) (q := 533) (d' := 0) 304 rfl uX12_end kL_49 rfl c4 h
set_option maxRecDepth 100000 in
theorem vL_law_542 {l : Launch} {G : pG} {bg : Nat × Nat} {n : Nat} {K : Int → Nat × Nat} {F E : Int → Int → Int} {Q : Option pV → pM → Prop} (x0 x1 x2 x3 s0 : Int) (h : (K x2).1 = 12 ∧ PC l G 8 mX12_row (0, 0) [(2, x2)] (n, K, F, E) (fun r μ => PW l G 84 mL_law bg 546 [(0, (2, x0)), (1, (2, x1)), (2, (2, x2)), (3, (0, x3))] (r.toList ++ [(0, s0)]) μ Q)) : PW l G 84 mL_law bg 542 [(0, (2, x0)), (1, (2, x1)), (2, (2, x2)), (3, (0, x3))] [(0, s0)] (n, K, F, E) Q := by
  refine s_aload_n (q := 543) 310 2 rfl rfl ?_
  obtain ⟨c1, h⟩ := h
  refine PW.pick [0, 1, 2, 3] rfl ?_
  exact n_callV (N := mX12_row) (as := []) (st := [(0, s0)]) (q := 546) (d' := 8) 311 rfl uX12_row kL_54 rfl c1 h
set_option maxRecDepth 100000 in
theorem vL_law_555 {l : Launch} {G : pG} {bg : Nat × Nat} {n : Nat} {K : Int → Nat × Nat} {F E : Int → Int → Int} {Q : Option pV → pM → Prop} (x0 x1 x2 x3 s0 : Int) (h : (K x2).1 = 12 ∧ PC l G 0 mX12_strays (0, 0) [(2, x2)] (n, K, F, E) (fun r μ => PW l G 84 mL_law bg 559 [(0, (2, x0)), (1, (2, x1)), (2, (2, x2)), (3, (0, x3))] (r.toList ++ [(0, s0)]) μ Q)) : PW l G 84 mL_law bg 555 [(0, (2, x0)), (1, (2, x1)), (2, (2, x2)), (3, (0, x3))] [(0, s0)] (n, K, F, E) Q := by
  refine s_aload_n (q := 556) 317 2 rfl rfl ?_
  obtain ⟨c1, h⟩ := h
  refine PW.pick [0, 1, 2, 3] rfl ?_
  exact n_callV (N := mX12_strays) (as := []) (st := [(0, s0)]) (q := 559) (d' := 0) 318 rfl uX12_strays kL_58 rfl c1 h
set_option maxRecDepth 100000 in
theorem vL_law_568 {l : Launch} {G : pG} {bg : Nat × Nat} {n : Nat} {K : Int → Nat × Nat} {F E : Int → Int → Int} {Q : Option pV → pM → Prop} (x0 x1 x2 x3 s0 : Int) (h : (K x2).1 = 12 ∧ PC l G 8 mX12_law (0, 0) [(2, x2)] (n, K, F, E) (fun r μ => PW l G 84 mL_law bg 572 [(0, (2, x0)), (1, (2, x1)), (2, (2, x2)), (3, (0, x3))] (r.toList ++ [(0, s0)]) μ Q)) : PW l G 84 mL_law bg 568 [(0, (2, x0)), (1, (2, x1)), (2, (2, x2)), (3, (0, x3))] [(0, s0)] (n, K, F, E) Q := by
  refine s_aload_n (q := 569) 324 2 rfl rfl ?_
  obtain ⟨c1, h⟩ := h
  refine PW.pick [0, 1, 2, 3] rfl ?_
  exact n_callV (N := mX12_law) (as := []) (st := [(0, s0)]) (q := 572) (d' := 8) 325 rfl uX12_law kL_62 rfl c1 h
set_option maxRecDepth 100000 in
theorem vL_law_581 {l : Launch} {G : pG} {bg : Nat × Nat} {n : Nat} {K : Int → Nat × Nat} {F E : Int → Int → Int} {Q : Option pV → pM → Prop} (x0 x1 x2 x3 s0 : Int) (h : (K x2).1 = 12 ∧ PC l G 10 mX12_orders (0, 0) [(2, x2)] (n, K, F, E) (fun r μ => PW l G 84 mL_law bg 585 [(0, (2, x0)), (1, (2, x1)), (2, (2, x2)), (3, (0, x3))] (r.toList ++ [(0, s0)]) μ Q)) : PW l G 84 mL_law bg 581 [(0, (2, x0)), (1, (2, x1)), (2, (2, x2)), (3, (0, x3))] [(0, s0)] (n, K, F, E) Q := by
  refine s_aload_n (q := 582) 331 2 rfl rfl ?_
  obtain ⟨c1, h⟩ := h
  refine PW.pick [0, 1, 2, 3] rfl ?_
  exact n_callV (N := mX12_orders) (as := []) (st := [(0, s0)]) (q := 585) (d' := 10) 332 rfl uX12_orders kL_66 rfl c1 h
set_option maxRecDepth 100000 in
theorem vL_law_594 {l : Launch} {G : pG} {bg : Nat × Nat} {n : Nat} {K : Int → Nat × Nat} {F E : Int → Int → Int} {Q : Option pV → pM → Prop} (x0 x1 x2 x3 s0 : Int) (h : (K x2).1 = 12 ∧ PC l G 0 mX12_fault (0, 0) [(2, x2)] (n, K, F, E) (fun r μ => PW l G 84 mL_law bg 598 [(0, (2, x0)), (1, (2, x1)), (2, (2, x2)), (3, (0, x3))] (r.toList ++ [(0, s0)]) μ Q)) : PW l G 84 mL_law bg 594 [(0, (2, x0)), (1, (2, x1)), (2, (2, x2)), (3, (0, x3))] [(0, s0)] (n, K, F, E) Q := by
  refine s_aload_n (q := 595) 338 2 rfl rfl ?_
  obtain ⟨c1, h⟩ := h
  refine PW.pick [0, 1, 2, 3] rfl ?_
  exact n_callV (N := mX12_fault) (as := []) (st := [(0, s0)]) (q := 598) (d' := 0) 339 rfl uX12_fault kL_70 rfl c1 h
set_option maxRecDepth 100000 in
theorem vL_law_607 {l : Launch} {G : pG} {bg : Nat × Nat} {n : Nat} {K : Int → Nat × Nat} {F E : Int → Int → Int} {Q : Option pV → pM → Prop} (x0 x1 x2 x3 s0 : Int) (h : (K x2).1 = 12 ∧ PC l G 0 mX12_stopped (0, 0) [(2, x2)] (n, K, F, E) (fun r μ => PW l G 84 mL_law bg 611 [(0, (2, x0)), (1, (2, x1)), (2, (2, x2)), (3, (0, x3))] (r.toList ++ [(0, s0)]) μ Q)) : PW l G 84 mL_law bg 607 [(0, (2, x0)), (1, (2, x1)), (2, (2, x2)), (3, (0, x3))] [(0, s0)] (n, K, F, E) Q := by
  refine s_aload_n (q := 608) 345 2 rfl rfl ?_
  obtain ⟨c1, h⟩ := h
  refine PW.pick [0, 1, 2, 3] rfl ?_
  exact n_callV (N := mX12_stopped) (as := []) (st := [(0, s0)]) (q := 611) (d' := 0) 346 rfl uX12_stopped kL_74 rfl c1 h
set_option maxRecDepth 100000 in
theorem vL_law_625 {l : Launch} {G : pG} {bg : Nat × Nat} {n : Nat} {K : Int → Nat × Nat} {F E : Int → Int → Int} {Q : Option pV → pM → Prop} (x0 x1 x2 x3 s0 : Int) (h : (-2147483648 ≤ x3 + 1 ∧ x3 + 1 < 2147483648) ∧ (K x0).1 = 20 ∧ ((0 : Int) ≤ x3 + 1 ∧ x3 + 1 < ((K x0).2 : Int)) ∧ (K x2).1 = 12 ∧ PC l G 2 mX12_force (0, 0) [(2, x2), (0, E x0 (x3 + 1))] (n, K, F, E) (fun r μ => PW l G 84 mL_law bg 634 [(0, (2, x0)), (1, (2, x1)), (2, (2, x2)), (3, (0, x3))] (r.toList ++ [(0, s0)]) μ Q)) : PW l G 84 mL_law bg 625 [(0, (2, x0)), (1, (2, x1)), (2, (2, x2)), (3, (0, x3))] [(0, s0)] (n, K, F, E) Q := by
  refine s_aload_n (q := 626) 357 2 rfl rfl ?_
  refine s_aload_n (q := 627) 358 0 rfl rfl ?_
  refine s_iload_n (q := 628) 359 3 rfl rfl ?_
  refine s_iconst (q := 629) 360 rfl ?_
  obtain ⟨c1, h⟩ := h
  refine n_iadd (q := 630) 361 rfl c1 ?_
  obtain ⟨c2, h⟩ := h
  obtain ⟨c3, h⟩ := h
  refine n_iald (q := 631) 362 rfl c2 c3 ?_
  obtain ⟨c4, h⟩ := h
  refine PW.pick [0, 1, 2, 3] rfl ?_
  exact n_callV (N := mX12_force) (as := [(0, E x0 (x3 + 1))]) (st := [(0, s0)]) (q := 634) (d' := 2) 363 rfl uX12_force kL_78 rfl c4 h
set_option maxRecDepth 100000 in
theorem vL_law_658 {l : Launch} {G : pG} {bg : Nat × Nat} {n : Nat} {K : Int → Nat × Nat} {F E : Int → Int → Int} {Q : Option pV → pM → Prop} (x0 x1 x2 x3 s0 : Int) (h : (-2147483648 ≤ x3 + 1 ∧ x3 + 1 < 2147483648) ∧ (K x0).1 = 20 ∧ ((0 : Int) ≤ x3 + 1 ∧ x3 + 1 < ((K x0).2 : Int)) ∧ (-2147483648 ≤ x3 + 2 ∧ x3 + 2 < 2147483648) ∧ ((0 : Int) ≤ x3 + 2 ∧ x3 + 2 < ((K x0).2 : Int)) ∧ (-2147483648 ≤ x3 + 3 ∧ x3 + 3 < 2147483648) ∧ ((0 : Int) ≤ x3 + 3 ∧ x3 + 3 < ((K x0).2 : Int)) ∧ (K x2).1 = 12 ∧ PC l G 8 mX12_come (0, 0) [(2, x2), (0, E x0 (x3 + 1)), (0, E x0 (x3 + 2)), (0, E x0 (x3 + 3))] (n, K, F, E) (fun r μ => PW l G 84 mL_law bg 677 [(0, (2, x0)), (1, (2, x1)), (2, (2, x2)), (3, (0, x3))] (r.toList ++ [(0, s0)]) μ Q)) : PW l G 84 mL_law bg 658 [(0, (2, x0)), (1, (2, x1)), (2, (2, x2)), (3, (0, x3))] [(0, s0)] (n, K, F, E) Q := by
  refine s_aload_n (q := 659) 384 2 rfl rfl ?_
  refine s_aload_n (q := 660) 385 0 rfl rfl ?_
  refine s_iload_n (q := 661) 386 3 rfl rfl ?_
  refine s_iconst (q := 662) 387 rfl ?_
  obtain ⟨c1, h⟩ := h
  refine n_iadd (q := 663) 388 rfl c1 ?_
  obtain ⟨c2, h⟩ := h
  obtain ⟨c3, h⟩ := h
  refine n_iald (q := 664) 389 rfl c2 c3 ?_
  refine s_aload_n (q := 665) 390 0 rfl rfl ?_
  refine s_iload_n (q := 666) 391 3 rfl rfl ?_
  refine s_iconst (q := 667) 392 rfl ?_
  obtain ⟨c4, h⟩ := h
  refine n_iadd (q := 668) 393 rfl c4 ?_
  obtain ⟨c5, h⟩ := h
  refine n_iald (q := 669) 394 rfl c2 c5 ?_
  refine s_aload_n (q := 670) 395 0 rfl rfl ?_
  refine s_iload_n (q := 671) 396 3 rfl rfl ?_
  refine s_iconst (q := 672) 397 rfl ?_
  obtain ⟨c6, h⟩ := h
  refine n_iadd (q := 673) 398 rfl c6 ?_
  obtain ⟨c7, h⟩ := h
  refine n_iald (q := 674) 399 rfl c2 c7 ?_
  obtain ⟨c8, h⟩ := h
  refine PW.pick [0, 1, 2, 3] rfl ?_
  exact n_callV (N := mX12_come) (as := [(0, E x0 (x3 + 1)), (0, E x0 (x3 + 2)), (0, E x0 (x3 + 3))]) (st := [(0, s0)]) (q := 677) (d' := 8) 400 rfl uX12_come kL_82 rfl c8 h
set_option maxRecDepth 100000 in
theorem vL_law_691 {l : Launch} {G : pG} {bg : Nat × Nat} {n : Nat} {K : Int → Nat × Nat} {F E : Int → Int → Int} {Q : Option pV → pM → Prop} (x0 x1 x2 x3 s0 : Int) (h : (-2147483648 ≤ x3 + 1 ∧ x3 + 1 < 2147483648) ∧ (K x0).1 = 20 ∧ ((0 : Int) ≤ x3 + 1 ∧ x3 + 1 < ((K x0).2 : Int)) ∧ (K x2).1 = 12 ∧ PC l G 3 mX12_strike (0, 0) [(2, x2), (0, E x0 (x3 + 1))] (n, K, F, E) (fun r μ => PW l G 84 mL_law bg 700 [(0, (2, x0)), (1, (2, x1)), (2, (2, x2)), (3, (0, x3))] (r.toList ++ [(0, s0)]) μ Q)) : PW l G 84 mL_law bg 691 [(0, (2, x0)), (1, (2, x1)), (2, (2, x2)), (3, (0, x3))] [(0, s0)] (n, K, F, E) Q := by
  refine s_aload_n (q := 692) 411 2 rfl rfl ?_
  refine s_aload_n (q := 693) 412 0 rfl rfl ?_
  refine s_iload_n (q := 694) 413 3 rfl rfl ?_
  refine s_iconst (q := 695) 414 rfl ?_
  obtain ⟨c1, h⟩ := h
  refine n_iadd (q := 696) 415 rfl c1 ?_
  obtain ⟨c2, h⟩ := h
  obtain ⟨c3, h⟩ := h
  refine n_iald (q := 697) 416 rfl c2 c3 ?_
  obtain ⟨c4, h⟩ := h
  refine PW.pick [0, 1, 2, 3] rfl ?_
  exact n_callV (N := mX12_strike) (as := [(0, E x0 (x3 + 1))]) (st := [(0, s0)]) (q := 700) (d' := 3) 417 rfl uX12_strike kL_86 rfl c4 h
set_option maxRecDepth 100000 in
theorem vL_law_719 {l : Launch} {G : pG} {bg : Nat × Nat} {n : Nat} {K : Int → Nat × Nat} {F E : Int → Int → Int} {Q : Option pV → pM → Prop} (x0 x1 x2 x3 s0 : Int) (h : (-2147483648 ≤ x3 + 1 ∧ x3 + 1 < 2147483648) ∧ (K x0).1 = 20 ∧ ((0 : Int) ≤ x3 + 1 ∧ x3 + 1 < ((K x0).2 : Int)) ∧ (-2147483648 ≤ x3 + 2 ∧ x3 + 2 < 2147483648) ∧ ((0 : Int) ≤ x3 + 2 ∧ x3 + 2 < ((K x0).2 : Int)) ∧ (K x2).1 = 12 ∧ PC l G 3 mX12_window (0, 0) [(2, x2), (0, E x0 (x3 + 1)), (0, E x0 (x3 + 2))] (n, K, F, E) (fun r μ => PW l G 84 mL_law bg 733 [(0, (2, x0)), (1, (2, x1)), (2, (2, x2)), (3, (0, x3))] (r.toList ++ [(0, s0)]) μ Q)) : PW l G 84 mL_law bg 719 [(0, (2, x0)), (1, (2, x1)), (2, (2, x2)), (3, (0, x3))] [(0, s0)] (n, K, F, E) Q := by
  refine s_aload_n (q := 720) 433 2 rfl rfl ?_
  refine s_aload_n (q := 721) 434 0 rfl rfl ?_
  refine s_iload_n (q := 722) 435 3 rfl rfl ?_
  refine s_iconst (q := 723) 436 rfl ?_
  obtain ⟨c1, h⟩ := h
  refine n_iadd (q := 724) 437 rfl c1 ?_
  obtain ⟨c2, h⟩ := h
  obtain ⟨c3, h⟩ := h
  refine n_iald (q := 725) 438 rfl c2 c3 ?_
  refine s_aload_n (q := 726) 439 0 rfl rfl ?_
  refine s_iload_n (q := 727) 440 3 rfl rfl ?_
  refine s_iconst (q := 728) 441 rfl ?_
  obtain ⟨c4, h⟩ := h
  refine n_iadd (q := 729) 442 rfl c4 ?_
  obtain ⟨c5, h⟩ := h
  refine n_iald (q := 730) 443 rfl c2 c5 ?_
  obtain ⟨c6, h⟩ := h
  refine PW.pick [0, 1, 2, 3] rfl ?_
  exact n_callV (N := mX12_window) (as := [(0, E x0 (x3 + 1)), (0, E x0 (x3 + 2))]) (st := [(0, s0)]) (q := 733) (d' := 3) 444 rfl uX12_window kL_90 rfl c6 h
set_option maxRecDepth 100000 in
theorem vL_law_752 {l : Launch} {G : pG} {bg : Nat × Nat} {n : Nat} {K : Int → Nat × Nat} {F E : Int → Int → Int} {Q : Option pV → pM → Prop} (x0 x1 x2 x3 s0 : Int) (h : (-2147483648 ≤ x3 + 1 ∧ x3 + 1 < 2147483648) ∧ (K x0).1 = 20 ∧ ((0 : Int) ≤ x3 + 1 ∧ x3 + 1 < ((K x0).2 : Int)) ∧ (-2147483648 ≤ x3 + 2 ∧ x3 + 2 < 2147483648) ∧ ((0 : Int) ≤ x3 + 2 ∧ x3 + 2 < ((K x0).2 : Int)) ∧ (K x2).1 = 12 ∧ PC l G 3 mX12_index (0, 0) [(2, x2), (0, E x0 (x3 + 1)), (0, E x0 (x3 + 2))] (n, K, F, E) (fun r μ => PW l G 84 mL_law bg 766 [(0, (2, x0)), (1, (2, x1)), (2, (2, x2)), (3, (0, x3))] (r.toList ++ [(0, s0)]) μ Q)) : PW l G 84 mL_law bg 752 [(0, (2, x0)), (1, (2, x1)), (2, (2, x2)), (3, (0, x3))] [(0, s0)] (n, K, F, E) Q := by
  refine s_aload_n (q := 753) 460 2 rfl rfl ?_
  refine s_aload_n (q := 754) 461 0 rfl rfl ?_
  refine s_iload_n (q := 755) 462 3 rfl rfl ?_
  refine s_iconst (q := 756) 463 rfl ?_
  obtain ⟨c1, h⟩ := h
  refine n_iadd (q := 757) 464 rfl c1 ?_
  obtain ⟨c2, h⟩ := h
  obtain ⟨c3, h⟩ := h
  refine n_iald (q := 758) 465 rfl c2 c3 ?_
  refine s_aload_n (q := 759) 466 0 rfl rfl ?_
  refine s_iload_n (q := 760) 467 3 rfl rfl ?_
  refine s_iconst (q := 761) 468 rfl ?_
  obtain ⟨c4, h⟩ := h
  refine n_iadd (q := 762) 469 rfl c4 ?_
  obtain ⟨c5, h⟩ := h
  refine n_iald (q := 763) 470 rfl c2 c5 ?_
  obtain ⟨c6, h⟩ := h
  refine PW.pick [0, 1, 2, 3] rfl ?_
  exact n_callV (N := mX12_index) (as := [(0, E x0 (x3 + 1)), (0, E x0 (x3 + 2))]) (st := [(0, s0)]) (q := 766) (d' := 3) 471 rfl uX12_index kL_94 rfl c6 h
set_option maxRecDepth 100000 in
theorem vL_law_775 {l : Launch} {G : pG} {bg : Nat × Nat} {n : Nat} {K : Int → Nat × Nat} {F E : Int → Int → Int} {Q : Option pV → pM → Prop} (x0 x1 x2 x3 s0 : Int) (h : (K x2).1 = 12 ∧ PC l G 1 mX12_undo (0, 0) [(2, x2)] (n, K, F, E) (fun r μ => PW l G 84 mL_law bg 779 [(0, (2, x0)), (1, (2, x1)), (2, (2, x2)), (3, (0, x3))] (r.toList ++ [(0, s0)]) μ Q)) : PW l G 84 mL_law bg 775 [(0, (2, x0)), (1, (2, x1)), (2, (2, x2)), (3, (0, x3))] [(0, s0)] (n, K, F, E) Q := by
  refine s_aload_n (q := 776) 477 2 rfl rfl ?_
  obtain ⟨c1, h⟩ := h
  refine PW.pick [0, 1, 2, 3] rfl ?_
  exact n_callV (N := mX12_undo) (as := []) (st := [(0, s0)]) (q := 779) (d' := 1) 478 rfl uX12_undo kL_98 rfl c1 h
set_option maxRecDepth 100000 in
theorem vL_law_798 {l : Launch} {G : pG} {bg : Nat × Nat} {n : Nat} {K : Int → Nat × Nat} {F E : Int → Int → Int} {Q : Option pV → pM → Prop} (x0 x1 x2 x3 s0 : Int) (h : (-2147483648 ≤ x3 + 1 ∧ x3 + 1 < 2147483648) ∧ (K x0).1 = 20 ∧ ((0 : Int) ≤ x3 + 1 ∧ x3 + 1 < ((K x0).2 : Int)) ∧ (-2147483648 ≤ x3 + 2 ∧ x3 + 2 < 2147483648) ∧ ((0 : Int) ≤ x3 + 2 ∧ x3 + 2 < ((K x0).2 : Int)) ∧ (K x2).1 = 12 ∧ PC l G 2 mX12_result (0, 0) [(2, x2), (0, E x0 (x3 + 1)), (0, E x0 (x3 + 2))] (n, K, F, E) (fun r μ => PW l G 84 mL_law bg 812 [(0, (2, x0)), (1, (2, x1)), (2, (2, x2)), (3, (0, x3))] (r.toList ++ [(0, s0)]) μ Q)) : PW l G 84 mL_law bg 798 [(0, (2, x0)), (1, (2, x1)), (2, (2, x2)), (3, (0, x3))] [(0, s0)] (n, K, F, E) Q := by
  refine s_aload_n (q := 799) 494 2 rfl rfl ?_
  refine s_aload_n (q := 800) 495 0 rfl rfl ?_
  refine s_iload_n (q := 801) 496 3 rfl rfl ?_
  refine s_iconst (q := 802) 497 rfl ?_
  obtain ⟨c1, h⟩ := h
  refine n_iadd (q := 803) 498 rfl c1 ?_
  obtain ⟨c2, h⟩ := h
  obtain ⟨c3, h⟩ := h
  refine n_iald (q := 804) 499 rfl c2 c3 ?_
  refine s_aload_n (q := 805) 500 0 rfl rfl ?_
  refine s_iload_n (q := 806) 501 3 rfl rfl ?_
  refine s_iconst (q := 807) 502 rfl ?_
  obtain ⟨c4, h⟩ := h
  refine n_iadd (q := 808) 503 rfl c4 ?_
  obtain ⟨c5, h⟩ := h
  refine n_iald (q := 809) 504 rfl c2 c5 ?_
  obtain ⟨c6, h⟩ := h
  refine PW.pick [0, 1, 2, 3] rfl ?_
  exact n_callV (N := mX12_result) (as := [(0, E x0 (x3 + 1)), (0, E x0 (x3 + 2))]) (st := [(0, s0)]) (q := 812) (d' := 2) 505 rfl uX12_result kL_102 rfl c6 h
set_option maxRecDepth 100000 in
theorem vL_law_826 {l : Launch} {G : pG} {bg : Nat × Nat} {n : Nat} {K : Int → Nat × Nat} {F E : Int → Int → Int} {Q : Option pV → pM → Prop} (x0 x1 x2 x3 s0 : Int) (h : (-2147483648 ≤ x3 + 1 ∧ x3 + 1 < 2147483648) ∧ (K x0).1 = 20 ∧ ((0 : Int) ≤ x3 + 1 ∧ x3 + 1 < ((K x0).2 : Int)) ∧ (K x2).1 = 12 ∧ PC l G 1 mX12_shut (0, 0) [(2, x2), (0, E x0 (x3 + 1))] (n, K, F, E) (fun r μ => PW l G 84 mL_law bg 835 [(0, (2, x0)), (1, (2, x1)), (2, (2, x2)), (3, (0, x3))] (r.toList ++ [(0, s0)]) μ Q)) : PW l G 84 mL_law bg 826 [(0, (2, x0)), (1, (2, x1)), (2, (2, x2)), (3, (0, x3))] [(0, s0)] (n, K, F, E) Q := by
  refine s_aload_n (q := 827) 516 2 rfl rfl ?_
  refine s_aload_n (q := 828) 517 0 rfl rfl ?_
  refine s_iload_n (q := 829) 518 3 rfl rfl ?_
  refine s_iconst (q := 830) 519 rfl ?_
  obtain ⟨c1, h⟩ := h
  refine n_iadd (q := 831) 520 rfl c1 ?_
  obtain ⟨c2, h⟩ := h
  obtain ⟨c3, h⟩ := h
  refine n_iald (q := 832) 521 rfl c2 c3 ?_
  obtain ⟨c4, h⟩ := h
  refine PW.pick [0, 1, 2, 3] rfl ?_
  exact n_callV (N := mX12_shut) (as := [(0, E x0 (x3 + 1))]) (st := [(0, s0)]) (q := 835) (d' := 1) 522 rfl uX12_shut kL_106 rfl c4 h
set_option maxRecDepth 100000 in
theorem vL_law_844 {l : Launch} {G : pG} {bg : Nat × Nat} {n : Nat} {K : Int → Nat × Nat} {F E : Int → Int → Int} {Q : Option pV → pM → Prop} (x0 x1 x2 x3 s0 : Int) (h : (K x2).1 = 12 ∧ PC l G 0 mX12_deepest (0, 0) [(2, x2)] (n, K, F, E) (fun r μ => PW l G 84 mL_law bg 848 [(0, (2, x0)), (1, (2, x1)), (2, (2, x2)), (3, (0, x3))] (r.toList ++ [(0, s0)]) μ Q)) : PW l G 84 mL_law bg 844 [(0, (2, x0)), (1, (2, x1)), (2, (2, x2)), (3, (0, x3))] [(0, s0)] (n, K, F, E) Q := by
  refine s_aload_n (q := 845) 528 2 rfl rfl ?_
  obtain ⟨c1, h⟩ := h
  refine PW.pick [0, 1, 2, 3] rfl ?_
  exact n_callV (N := mX12_deepest) (as := []) (st := [(0, s0)]) (q := 848) (d' := 0) 529 rfl uX12_deepest kL_110 rfl c1 h
set_option maxRecDepth 100000 in
theorem vL_law_877 {l : Launch} {G : pG} {bg : Nat × Nat} {n : Nat} {K : Int → Nat × Nat} {F E : Int → Int → Int} {Q : Option pV → pM → Prop} (x0 x1 x2 x3 s0 : Int) (h : (-2147483648 ≤ x3 + 1 ∧ x3 + 1 < 2147483648) ∧ (K x0).1 = 20 ∧ ((0 : Int) ≤ x3 + 1 ∧ x3 + 1 < ((K x0).2 : Int)) ∧ (-2147483648 ≤ x3 + 2 ∧ x3 + 2 < 2147483648) ∧ ((0 : Int) ≤ x3 + 2 ∧ x3 + 2 < ((K x0).2 : Int)) ∧ (-2147483648 ≤ x3 + 3 ∧ x3 + 3 < 2147483648) ∧ ((0 : Int) ≤ x3 + 3 ∧ x3 + 3 < ((K x0).2 : Int)) ∧ (-2147483648 ≤ x3 + 4 ∧ x3 + 4 < 2147483648) ∧ ((0 : Int) ≤ x3 + 4 ∧ x3 + 4 < ((K x0).2 : Int)) ∧ (K x2).1 = 12 ∧ PC l G 8 mX12_brings (0, 0) [(2, x2), (0, E x0 (x3 + 1)), (0, E x0 (x3 + 2)), (0, E x0 (x3 + 3)), (0, E x0 (x3 + 4))] (n, K, F, E) (fun r μ => PW l G 84 mL_law bg 901 [(0, (2, x0)), (1, (2, x1)), (2, (2, x2)), (3, (0, x3))] (r.toList ++ [(0, s0)]) μ Q)) : PW l G 84 mL_law bg 877 [(0, (2, x0)), (1, (2, x1)), (2, (2, x2)), (3, (0, x3))] [(0, s0)] (n, K, F, E) Q := by
  refine s_aload_n (q := 878) 555 2 rfl rfl ?_
  refine s_aload_n (q := 879) 556 0 rfl rfl ?_
  refine s_iload_n (q := 880) 557 3 rfl rfl ?_
  refine s_iconst (q := 881) 558 rfl ?_
  obtain ⟨c1, h⟩ := h
  refine n_iadd (q := 882) 559 rfl c1 ?_
  obtain ⟨c2, h⟩ := h
  obtain ⟨c3, h⟩ := h
  refine n_iald (q := 883) 560 rfl c2 c3 ?_
  refine s_aload_n (q := 884) 561 0 rfl rfl ?_
  refine s_iload_n (q := 885) 562 3 rfl rfl ?_
  refine s_iconst (q := 886) 563 rfl ?_
  obtain ⟨c4, h⟩ := h
  refine n_iadd (q := 887) 564 rfl c4 ?_
  obtain ⟨c5, h⟩ := h
  refine n_iald (q := 888) 565 rfl c2 c5 ?_
  refine s_aload_n (q := 889) 566 0 rfl rfl ?_
  refine s_iload_n (q := 890) 567 3 rfl rfl ?_
  refine s_iconst (q := 891) 568 rfl ?_
  obtain ⟨c6, h⟩ := h
  refine n_iadd (q := 892) 569 rfl c6 ?_
  obtain ⟨c7, h⟩ := h
  refine n_iald (q := 893) 570 rfl c2 c7 ?_
  refine s_aload_n (q := 894) 571 0 rfl rfl ?_
  refine s_iload_n (q := 895) 572 3 rfl rfl ?_
  refine s_iconst (q := 896) 573 rfl ?_
  obtain ⟨c8, h⟩ := h
  refine n_iadd (q := 897) 574 rfl c8 ?_
  obtain ⟨c9, h⟩ := h
  refine n_iald (q := 898) 575 rfl c2 c9 ?_
  obtain ⟨c10, h⟩ := h
  refine PW.pick [0, 1, 2, 3] rfl ?_
  exact n_callV (N := mX12_brings) (as := [(0, E x0 (x3 + 1)), (0, E x0 (x3 + 2)), (0, E x0 (x3 + 3)), (0, E x0 (x3 + 4))]) (st := [(0, s0)]) (q := 901) (d' := 8) 576 rfl uX12_brings kL_114 rfl c10 h
set_option maxRecDepth 100000 in
theorem vL_law_930 {l : Launch} {G : pG} {bg : Nat × Nat} {n : Nat} {K : Int → Nat × Nat} {F E : Int → Int → Int} {Q : Option pV → pM → Prop} (x0 x1 x2 x3 s0 : Int) (h : (-2147483648 ≤ x3 + 1 ∧ x3 + 1 < 2147483648) ∧ (K x0).1 = 20 ∧ ((0 : Int) ≤ x3 + 1 ∧ x3 + 1 < ((K x0).2 : Int)) ∧ (-2147483648 ≤ x3 + 2 ∧ x3 + 2 < 2147483648) ∧ ((0 : Int) ≤ x3 + 2 ∧ x3 + 2 < ((K x0).2 : Int)) ∧ (-2147483648 ≤ x3 + 3 ∧ x3 + 3 < 2147483648) ∧ ((0 : Int) ≤ x3 + 3 ∧ x3 + 3 < ((K x0).2 : Int)) ∧ (-2147483648 ≤ x3 + 4 ∧ x3 + 4 < 2147483648) ∧ ((0 : Int) ≤ x3 + 4 ∧ x3 + 4 < ((K x0).2 : Int)) ∧ (K x2).1 = 12 ∧ PC l G 8 mX12_cheapest (0, 0) [(2, x2), (0, E x0 (x3 + 1)), (0, E x0 (x3 + 2)), (0, E x0 (x3 + 3)), (0, E x0 (x3 + 4))] (n, K, F, E) (fun r μ => PW l G 84 mL_law bg 954 [(0, (2, x0)), (1, (2, x1)), (2, (2, x2)), (3, (0, x3))] (r.toList ++ [(0, s0)]) μ Q)) : PW l G 84 mL_law bg 930 [(0, (2, x0)), (1, (2, x1)), (2, (2, x2)), (3, (0, x3))] [(0, s0)] (n, K, F, E) Q := by
  refine s_aload_n (q := 931) 602 2 rfl rfl ?_
  refine s_aload_n (q := 932) 603 0 rfl rfl ?_
  refine s_iload_n (q := 933) 604 3 rfl rfl ?_
  refine s_iconst (q := 934) 605 rfl ?_
  obtain ⟨c1, h⟩ := h
  refine n_iadd (q := 935) 606 rfl c1 ?_
  obtain ⟨c2, h⟩ := h
  obtain ⟨c3, h⟩ := h
  refine n_iald (q := 936) 607 rfl c2 c3 ?_
  refine s_aload_n (q := 937) 608 0 rfl rfl ?_
  refine s_iload_n (q := 938) 609 3 rfl rfl ?_
  refine s_iconst (q := 939) 610 rfl ?_
  obtain ⟨c4, h⟩ := h
  refine n_iadd (q := 940) 611 rfl c4 ?_
  obtain ⟨c5, h⟩ := h
  refine n_iald (q := 941) 612 rfl c2 c5 ?_
  refine s_aload_n (q := 942) 613 0 rfl rfl ?_
  refine s_iload_n (q := 943) 614 3 rfl rfl ?_
  refine s_iconst (q := 944) 615 rfl ?_
  obtain ⟨c6, h⟩ := h
  refine n_iadd (q := 945) 616 rfl c6 ?_
  obtain ⟨c7, h⟩ := h
  refine n_iald (q := 946) 617 rfl c2 c7 ?_
  refine s_aload_n (q := 947) 618 0 rfl rfl ?_
  refine s_iload_n (q := 948) 619 3 rfl rfl ?_
  refine s_iconst (q := 949) 620 rfl ?_
  obtain ⟨c8, h⟩ := h
  refine n_iadd (q := 950) 621 rfl c8 ?_
  obtain ⟨c9, h⟩ := h
  refine n_iald (q := 951) 622 rfl c2 c9 ?_
  obtain ⟨c10, h⟩ := h
  refine PW.pick [0, 1, 2, 3] rfl ?_
  exact n_callV (N := mX12_cheapest) (as := [(0, E x0 (x3 + 1)), (0, E x0 (x3 + 2)), (0, E x0 (x3 + 3)), (0, E x0 (x3 + 4))]) (st := [(0, s0)]) (q := 954) (d' := 8) 623 rfl uX12_cheapest kL_118 rfl c10 h
set_option maxRecDepth 100000 in
theorem vL_law_978 {l : Launch} {G : pG} {bg : Nat × Nat} {n : Nat} {K : Int → Nat × Nat} {F E : Int → Int → Int} {Q : Option pV → pM → Prop} (x0 x1 x2 x3 s0 : Int) (h : (-2147483648 ≤ x3 + 1 ∧ x3 + 1 < 2147483648) ∧ (K x0).1 = 20 ∧ ((0 : Int) ≤ x3 + 1 ∧ x3 + 1 < ((K x0).2 : Int)) ∧ (-2147483648 ≤ x3 + 2 ∧ x3 + 2 < 2147483648) ∧ ((0 : Int) ≤ x3 + 2 ∧ x3 + 2 < ((K x0).2 : Int)) ∧ (-2147483648 ≤ x3 + 3 ∧ x3 + 3 < 2147483648) ∧ ((0 : Int) ≤ x3 + 3 ∧ x3 + 3 < ((K x0).2 : Int)) ∧ (K x2).1 = 12 ∧ PC l G 8 mX12_regret (0, 0) [(2, x2), (0, E x0 (x3 + 1)), (0, E x0 (x3 + 2)), (0, E x0 (x3 + 3))] (n, K, F, E) (fun r μ => PW l G 84 mL_law bg 997 [(0, (2, x0)), (1, (2, x1)), (2, (2, x2)), (3, (0, x3))] (r.toList ++ [(0, s0)]) μ Q)) : PW l G 84 mL_law bg 978 [(0, (2, x0)), (1, (2, x1)), (2, (2, x2)), (3, (0, x3))] [(0, s0)] (n, K, F, E) Q := by
  refine s_aload_n (q := 979) 644 2 rfl rfl ?_
  refine s_aload_n (q := 980) 645 0 rfl rfl ?_
  refine s_iload_n (q := 981) 646 3 rfl rfl ?_
  refine s_iconst (q := 982) 647 rfl ?_
  obtain ⟨c1, h⟩ := h
  refine n_iadd (q := 983) 648 rfl c1 ?_
  obtain ⟨c2, h⟩ := h
  obtain ⟨c3, h⟩ := h
  refine n_iald (q := 984) 649 rfl c2 c3 ?_
  refine s_aload_n (q := 985) 650 0 rfl rfl ?_
  refine s_iload_n (q := 986) 651 3 rfl rfl ?_
  refine s_iconst (q := 987) 652 rfl ?_
  obtain ⟨c4, h⟩ := h
  refine n_iadd (q := 988) 653 rfl c4 ?_
  obtain ⟨c5, h⟩ := h
  refine n_iald (q := 989) 654 rfl c2 c5 ?_
  refine s_aload_n (q := 990) 655 0 rfl rfl ?_
  refine s_iload_n (q := 991) 656 3 rfl rfl ?_
  refine s_iconst (q := 992) 657 rfl ?_
  obtain ⟨c6, h⟩ := h
  refine n_iadd (q := 993) 658 rfl c6 ?_
  obtain ⟨c7, h⟩ := h
  refine n_iald (q := 994) 659 rfl c2 c7 ?_
  obtain ⟨c8, h⟩ := h
  refine PW.pick [0, 1, 2, 3] rfl ?_
  exact n_callV (N := mX12_regret) (as := [(0, E x0 (x3 + 1)), (0, E x0 (x3 + 2)), (0, E x0 (x3 + 3))]) (st := [(0, s0)]) (q := 997) (d' := 8) 660 rfl uX12_regret kL_122 rfl c8 h
set_option maxRecDepth 100000 in
theorem vL_law_1026 {l : Launch} {G : pG} {bg : Nat × Nat} {n : Nat} {K : Int → Nat × Nat} {F E : Int → Int → Int} {Q : Option pV → pM → Prop} (x0 x1 x2 x3 s0 : Int) (h : (-2147483648 ≤ x3 + 1 ∧ x3 + 1 < 2147483648) ∧ (K x0).1 = 20 ∧ ((0 : Int) ≤ x3 + 1 ∧ x3 + 1 < ((K x0).2 : Int)) ∧ (-2147483648 ≤ x3 + 2 ∧ x3 + 2 < 2147483648) ∧ ((0 : Int) ≤ x3 + 2 ∧ x3 + 2 < ((K x0).2 : Int)) ∧ (-2147483648 ≤ x3 + 3 ∧ x3 + 3 < 2147483648) ∧ ((0 : Int) ≤ x3 + 3 ∧ x3 + 3 < ((K x0).2 : Int)) ∧ (-2147483648 ≤ x3 + 4 ∧ x3 + 4 < 2147483648) ∧ ((0 : Int) ≤ x3 + 4 ∧ x3 + 4 < ((K x0).2 : Int)) ∧ (K x2).1 = 12 ∧ PC l G 8 mX12_bestIndex (0, 0) [(2, x2), (0, E x0 (x3 + 1)), (0, E x0 (x3 + 2)), (0, E x0 (x3 + 3)), (0, E x0 (x3 + 4))] (n, K, F, E) (fun r μ => PW l G 84 mL_law bg 1050 [(0, (2, x0)), (1, (2, x1)), (2, (2, x2)), (3, (0, x3))] (r.toList ++ [(0, s0)]) μ Q)) : PW l G 84 mL_law bg 1026 [(0, (2, x0)), (1, (2, x1)), (2, (2, x2)), (3, (0, x3))] [(0, s0)] (n, K, F, E) Q := by
  refine s_aload_n (q := 1027) 686 2 rfl rfl ?_
  refine s_aload_n (q := 1028) 687 0 rfl rfl ?_
  refine s_iload_n (q := 1029) 688 3 rfl rfl ?_
  refine s_iconst (q := 1030) 689 rfl ?_
  obtain ⟨c1, h⟩ := h
  refine n_iadd (q := 1031) 690 rfl c1 ?_
  obtain ⟨c2, h⟩ := h
  obtain ⟨c3, h⟩ := h
  refine n_iald (q := 1032) 691 rfl c2 c3 ?_
  refine s_aload_n (q := 1033) 692 0 rfl rfl ?_
  refine s_iload_n (q := 1034) 693 3 rfl rfl ?_
  refine s_iconst (q := 1035) 694 rfl ?_
  obtain ⟨c4, h⟩ := h
  refine n_iadd (q := 1036) 695 rfl c4 ?_
  obtain ⟨c5, h⟩ := h
  refine n_iald (q := 1037) 696 rfl c2 c5 ?_
  refine s_aload_n (q := 1038) 697 0 rfl rfl ?_
  refine s_iload_n (q := 1039) 698 3 rfl rfl ?_
  refine s_iconst (q := 1040) 699 rfl ?_
  obtain ⟨c6, h⟩ := h
  refine n_iadd (q := 1041) 700 rfl c6 ?_
  obtain ⟨c7, h⟩ := h
  refine n_iald (q := 1042) 701 rfl c2 c7 ?_
  refine s_aload_n (q := 1043) 702 0 rfl rfl ?_
  refine s_iload_n (q := 1044) 703 3 rfl rfl ?_
  refine s_iconst (q := 1045) 704 rfl ?_
  obtain ⟨c8, h⟩ := h
  refine n_iadd (q := 1046) 705 rfl c8 ?_
  obtain ⟨c9, h⟩ := h
  refine n_iald (q := 1047) 706 rfl c2 c9 ?_
  obtain ⟨c10, h⟩ := h
  refine PW.pick [0, 1, 2, 3] rfl ?_
  exact n_callV (N := mX12_bestIndex) (as := [(0, E x0 (x3 + 1)), (0, E x0 (x3 + 2)), (0, E x0 (x3 + 3)), (0, E x0 (x3 + 4))]) (st := [(0, s0)]) (q := 1050) (d' := 8) 707 rfl uX12_bestIndex kL_126 rfl c10 h
set_option maxRecDepth 100000 in
theorem vL_law_1069 {l : Launch} {G : pG} {bg : Nat × Nat} {n : Nat} {K : Int → Nat × Nat} {F E : Int → Int → Int} {Q : Option pV → pM → Prop} (x0 x1 x2 x3 s0 : Int) (h : (-2147483648 ≤ x3 + 1 ∧ x3 + 1 < 2147483648) ∧ (K x0).1 = 20 ∧ ((0 : Int) ≤ x3 + 1 ∧ x3 + 1 < ((K x0).2 : Int)) ∧ (-2147483648 ≤ x3 + 2 ∧ x3 + 2 < 2147483648) ∧ ((0 : Int) ≤ x3 + 2 ∧ x3 + 2 < ((K x0).2 : Int)) ∧ (K x2).1 = 12 ∧ PC l G 1 mX12_seen (0, 0) [(2, x2), (0, E x0 (x3 + 1)), (0, E x0 (x3 + 2))] (n, K, F, E) (fun r μ => PW l G 84 mL_law bg 1083 [(0, (2, x0)), (1, (2, x1)), (2, (2, x2)), (3, (0, x3))] (r.toList ++ [(0, s0)]) μ Q)) : PW l G 84 mL_law bg 1069 [(0, (2, x0)), (1, (2, x1)), (2, (2, x2)), (3, (0, x3))] [(0, s0)] (n, K, F, E) Q := by
  refine s_aload_n (q := 1070) 723 2 rfl rfl ?_
  refine s_aload_n (q := 1071) 724 0 rfl rfl ?_
  refine s_iload_n (q := 1072) 725 3 rfl rfl ?_
  refine s_iconst (q := 1073) 726 rfl ?_
  obtain ⟨c1, h⟩ := h
  refine n_iadd (q := 1074) 727 rfl c1 ?_
  obtain ⟨c2, h⟩ := h
  obtain ⟨c3, h⟩ := h
  refine n_iald (q := 1075) 728 rfl c2 c3 ?_
  refine s_aload_n (q := 1076) 729 0 rfl rfl ?_
  refine s_iload_n (q := 1077) 730 3 rfl rfl ?_
  refine s_iconst (q := 1078) 731 rfl ?_
  obtain ⟨c4, h⟩ := h
  refine n_iadd (q := 1079) 732 rfl c4 ?_
  obtain ⟨c5, h⟩ := h
  refine n_iald (q := 1080) 733 rfl c2 c5 ?_
  obtain ⟨c6, h⟩ := h
  refine PW.pick [0, 1, 2, 3] rfl ?_
  exact n_callV (N := mX12_seen) (as := [(0, E x0 (x3 + 1)), (0, E x0 (x3 + 2))]) (st := [(0, s0)]) (q := 1083) (d' := 1) 734 rfl uX12_seen kL_130 rfl c6 h
set_option maxRecDepth 100000 in
theorem vL_law_1092 {l : Launch} {G : pG} {bg : Nat × Nat} {n : Nat} {K : Int → Nat × Nat} {F E : Int → Int → Int} {Q : Option pV → pM → Prop} (x0 x1 x2 x3 s0 : Int) (h : (K x2).1 = 12 ∧ PC l G 0 mX12_forget (0, 0) [(2, x2)] (n, K, F, E) (fun r μ => PW l G 84 mL_law bg 1096 [(0, (2, x0)), (1, (2, x1)), (2, (2, x2)), (3, (0, x3))] (r.toList ++ [(0, s0)]) μ Q)) : PW l G 84 mL_law bg 1092 [(0, (2, x0)), (1, (2, x1)), (2, (2, x2)), (3, (0, x3))] [(0, s0)] (n, K, F, E) Q := by
  refine s_aload_n (q := 1093) 740 2 rfl rfl ?_
  obtain ⟨c1, h⟩ := h
  refine PW.pick [0, 1, 2, 3] rfl ?_
  exact n_callV (N := mX12_forget) (as := []) (st := [(0, s0)]) (q := 1096) (d' := 0) 741 rfl uX12_forget kL_134 rfl c1 h
set_option maxRecDepth 100000 in
theorem vL_law_1110 {l : Launch} {G : pG} {bg : Nat × Nat} {n : Nat} {K : Int → Nat × Nat} {F E : Int → Int → Int} {Q : Option pV → pM → Prop} (x0 x1 x2 x3 s0 : Int) (h : (-2147483648 ≤ x3 + 1 ∧ x3 + 1 < 2147483648) ∧ (K x0).1 = 20 ∧ ((0 : Int) ≤ x3 + 1 ∧ x3 + 1 < ((K x0).2 : Int)) ∧ (K x2).1 = 12 ∧ PC l G 3 mX12_canBe (0, 0) [(2, x2), (0, E x0 (x3 + 1))] (n, K, F, E) (fun r μ => PW l G 84 mL_law bg 1119 [(0, (2, x0)), (1, (2, x1)), (2, (2, x2)), (3, (0, x3))] (r.toList ++ [(0, s0)]) μ Q)) : PW l G 84 mL_law bg 1110 [(0, (2, x0)), (1, (2, x1)), (2, (2, x2)), (3, (0, x3))] [(0, s0)] (n, K, F, E) Q := by
  refine s_aload_n (q := 1111) 752 2 rfl rfl ?_
  refine s_aload_n (q := 1112) 753 0 rfl rfl ?_
  refine s_iload_n (q := 1113) 754 3 rfl rfl ?_
  refine s_iconst (q := 1114) 755 rfl ?_
  obtain ⟨c1, h⟩ := h
  refine n_iadd (q := 1115) 756 rfl c1 ?_
  obtain ⟨c2, h⟩ := h
  obtain ⟨c3, h⟩ := h
  refine n_iald (q := 1116) 757 rfl c2 c3 ?_
  obtain ⟨c4, h⟩ := h
  refine PW.pick [0, 1, 2, 3] rfl ?_
  exact n_callV (N := mX12_canBe) (as := [(0, E x0 (x3 + 1))]) (st := [(0, s0)]) (q := 1119) (d' := 3) 758 rfl uX12_canBe kL_138 rfl c4 h
set_option maxRecDepth 100000 in
theorem vL_law_1133 {l : Launch} {G : pG} {bg : Nat × Nat} {n : Nat} {K : Int → Nat × Nat} {F E : Int → Int → Int} {Q : Option pV → pM → Prop} (x0 x1 x2 x3 s0 : Int) (h : (-2147483648 ≤ x3 + 1 ∧ x3 + 1 < 2147483648) ∧ (K x0).1 = 20 ∧ ((0 : Int) ≤ x3 + 1 ∧ x3 + 1 < ((K x0).2 : Int)) ∧ (K x2).1 = 12 ∧ PC l G 4 mX12_ask (0, 0) [(2, x2), (0, E x0 (x3 + 1))] (n, K, F, E) (fun r μ => PW l G 84 mL_law bg 1142 [(0, (2, x0)), (1, (2, x1)), (2, (2, x2)), (3, (0, x3))] (r.toList ++ [(0, s0)]) μ Q)) : PW l G 84 mL_law bg 1133 [(0, (2, x0)), (1, (2, x1)), (2, (2, x2)), (3, (0, x3))] [(0, s0)] (n, K, F, E) Q := by
  refine s_aload_n (q := 1134) 769 2 rfl rfl ?_
  refine s_aload_n (q := 1135) 770 0 rfl rfl ?_
  refine s_iload_n (q := 1136) 771 3 rfl rfl ?_
  refine s_iconst (q := 1137) 772 rfl ?_
  obtain ⟨c1, h⟩ := h
  refine n_iadd (q := 1138) 773 rfl c1 ?_
  obtain ⟨c2, h⟩ := h
  obtain ⟨c3, h⟩ := h
  refine n_iald (q := 1139) 774 rfl c2 c3 ?_
  obtain ⟨c4, h⟩ := h
  refine PW.pick [0, 1, 2, 3] rfl ?_
  exact n_callV (N := mX12_ask) (as := [(0, E x0 (x3 + 1))]) (st := [(0, s0)]) (q := 1142) (d' := 4) 775 rfl uX12_ask kL_142 rfl c4 h
set_option maxRecDepth 100000 in
theorem vL_law_1161 {l : Launch} {G : pG} {bg : Nat × Nat} {n : Nat} {K : Int → Nat × Nat} {F E : Int → Int → Int} {Q : Option pV → pM → Prop} (x0 x1 x2 x3 s0 : Int) (h : (-2147483648 ≤ x3 + 1 ∧ x3 + 1 < 2147483648) ∧ (K x0).1 = 20 ∧ ((0 : Int) ≤ x3 + 1 ∧ x3 + 1 < ((K x0).2 : Int)) ∧ (-2147483648 ≤ x3 + 2 ∧ x3 + 2 < 2147483648) ∧ ((0 : Int) ≤ x3 + 2 ∧ x3 + 2 < ((K x0).2 : Int)) ∧ (K x2).1 = 12 ∧ PC l G 1 mX12_few (0, 0) [(2, x2), (0, E x0 (x3 + 1)), (0, E x0 (x3 + 2))] (n, K, F, E) (fun r μ => PW l G 84 mL_law bg 1175 [(0, (2, x0)), (1, (2, x1)), (2, (2, x2)), (3, (0, x3))] (r.toList ++ [(1, s0)]) μ Q)) : PW l G 84 mL_law bg 1161 [(0, (2, x0)), (1, (2, x1)), (2, (2, x2)), (3, (0, x3))] [(1, s0)] (n, K, F, E) Q := by
  refine s_aload_n (q := 1162) 791 2 rfl rfl ?_
  refine s_aload_n (q := 1163) 792 0 rfl rfl ?_
  refine s_iload_n (q := 1164) 793 3 rfl rfl ?_
  refine s_iconst (q := 1165) 794 rfl ?_
  obtain ⟨c1, h⟩ := h
  refine n_iadd (q := 1166) 795 rfl c1 ?_
  obtain ⟨c2, h⟩ := h
  obtain ⟨c3, h⟩ := h
  refine n_iald (q := 1167) 796 rfl c2 c3 ?_
  refine s_aload_n (q := 1168) 797 0 rfl rfl ?_
  refine s_iload_n (q := 1169) 798 3 rfl rfl ?_
  refine s_iconst (q := 1170) 799 rfl ?_
  obtain ⟨c4, h⟩ := h
  refine n_iadd (q := 1171) 800 rfl c4 ?_
  obtain ⟨c5, h⟩ := h
  refine n_iald (q := 1172) 801 rfl c2 c5 ?_
  obtain ⟨c6, h⟩ := h
  refine PW.pick [0, 1, 2, 3] rfl ?_
  exact n_callV (N := mX12_few) (as := [(0, E x0 (x3 + 1)), (0, E x0 (x3 + 2))]) (st := [(1, s0)]) (q := 1175) (d' := 1) 802 rfl uX12_few kL_147 rfl c6 h
set_option maxRecDepth 100000 in
theorem vL_law_1205 {l : Launch} {G : pG} {bg : Nat × Nat} {n : Nat} {K : Int → Nat × Nat} {F E : Int → Int → Int} {Q : Option pV → pM → Prop} (x0 x1 x2 x3 s0 : Int) (h : (-2147483648 ≤ x3 + 1 ∧ x3 + 1 < 2147483648) ∧ (K x0).1 = 20 ∧ ((0 : Int) ≤ x3 + 1 ∧ x3 + 1 < ((K x0).2 : Int)) ∧ (-2147483648 ≤ x3 + 2 ∧ x3 + 2 < 2147483648) ∧ ((0 : Int) ≤ x3 + 2 ∧ x3 + 2 < ((K x0).2 : Int)) ∧ (-2147483648 ≤ x3 + 3 ∧ x3 + 3 < 2147483648) ∧ ((0 : Int) ≤ x3 + 3 ∧ x3 + 3 < ((K x0).2 : Int)) ∧ (-2147483648 ≤ x3 + 4 ∧ x3 + 4 < 2147483648) ∧ ((0 : Int) ≤ x3 + 4 ∧ x3 + 4 < ((K x0).2 : Int)) ∧ (K x2).1 = 12 ∧ PC l G 8 mX12_compare (0, 0) [(2, x2), (0, E x0 (x3 + 1)), (0, E x0 (x3 + 2)), (0, E x0 (x3 + 3)), (0, E x0 (x3 + 4))] (n, K, F, E) (fun r μ => PW l G 84 mL_law bg 1229 [(0, (2, x0)), (1, (2, x1)), (2, (2, x2)), (3, (0, x3))] (r.toList ++ [(0, s0)]) μ Q)) : PW l G 84 mL_law bg 1205 [(0, (2, x0)), (1, (2, x1)), (2, (2, x2)), (3, (0, x3))] [(0, s0)] (n, K, F, E) Q := by
  refine s_aload_n (q := 1206) 829 2 rfl rfl ?_
  refine s_aload_n (q := 1207) 830 0 rfl rfl ?_
  refine s_iload_n (q := 1208) 831 3 rfl rfl ?_
  refine s_iconst (q := 1209) 832 rfl ?_
  obtain ⟨c1, h⟩ := h
  refine n_iadd (q := 1210) 833 rfl c1 ?_
  obtain ⟨c2, h⟩ := h
  obtain ⟨c3, h⟩ := h
  refine n_iald (q := 1211) 834 rfl c2 c3 ?_
  refine s_aload_n (q := 1212) 835 0 rfl rfl ?_
  refine s_iload_n (q := 1213) 836 3 rfl rfl ?_
  refine s_iconst (q := 1214) 837 rfl ?_
  obtain ⟨c4, h⟩ := h
  refine n_iadd (q := 1215) 838 rfl c4 ?_
  obtain ⟨c5, h⟩ := h
  refine n_iald (q := 1216) 839 rfl c2 c5 ?_
  refine s_aload_n (q := 1217) 840 0 rfl rfl ?_
  refine s_iload_n (q := 1218) 841 3 rfl rfl ?_
  refine s_iconst (q := 1219) 842 rfl ?_
  obtain ⟨c6, h⟩ := h
  refine n_iadd (q := 1220) 843 rfl c6 ?_
  obtain ⟨c7, h⟩ := h
  refine n_iald (q := 1221) 844 rfl c2 c7 ?_
  refine s_aload_n (q := 1222) 845 0 rfl rfl ?_
  refine s_iload_n (q := 1223) 846 3 rfl rfl ?_
  refine s_iconst (q := 1224) 847 rfl ?_
  obtain ⟨c8, h⟩ := h
  refine n_iadd (q := 1225) 848 rfl c8 ?_
  obtain ⟨c9, h⟩ := h
  refine n_iald (q := 1226) 849 rfl c2 c9 ?_
  obtain ⟨c10, h⟩ := h
  refine PW.pick [0, 1, 2, 3] rfl ?_
  exact n_callV (N := mX12_compare) (as := [(0, E x0 (x3 + 1)), (0, E x0 (x3 + 2)), (0, E x0 (x3 + 3)), (0, E x0 (x3 + 4))]) (st := [(0, s0)]) (q := 1229) (d' := 8) 850 rfl uX12_compare kL_151 rfl c10 h
set_option maxRecDepth 100000 in
theorem vL_law_1248 {l : Launch} {G : pG} {bg : Nat × Nat} {n : Nat} {K : Int → Nat × Nat} {F E : Int → Int → Int} {Q : Option pV → pM → Prop} (x0 x1 x2 x3 s0 : Int) (h : (-2147483648 ≤ x3 + 1 ∧ x3 + 1 < 2147483648) ∧ (K x0).1 = 20 ∧ ((0 : Int) ≤ x3 + 1 ∧ x3 + 1 < ((K x0).2 : Int)) ∧ (-2147483648 ≤ x3 + 2 ∧ x3 + 2 < 2147483648) ∧ ((0 : Int) ≤ x3 + 2 ∧ x3 + 2 < ((K x0).2 : Int)) ∧ (K x2).1 = 12 ∧ PC l G 8 mX12_days (0, 0) [(2, x2), (0, E x0 (x3 + 1)), (0, E x0 (x3 + 2))] (n, K, F, E) (fun r μ => PW l G 84 mL_law bg 1262 [(0, (2, x0)), (1, (2, x1)), (2, (2, x2)), (3, (0, x3))] (r.toList ++ [(0, s0)]) μ Q)) : PW l G 84 mL_law bg 1248 [(0, (2, x0)), (1, (2, x1)), (2, (2, x2)), (3, (0, x3))] [(0, s0)] (n, K, F, E) Q := by
  refine s_aload_n (q := 1249) 866 2 rfl rfl ?_
  refine s_aload_n (q := 1250) 867 0 rfl rfl ?_
  refine s_iload_n (q := 1251) 868 3 rfl rfl ?_
  refine s_iconst (q := 1252) 869 rfl ?_
  obtain ⟨c1, h⟩ := h
  refine n_iadd (q := 1253) 870 rfl c1 ?_
  obtain ⟨c2, h⟩ := h
  obtain ⟨c3, h⟩ := h
  refine n_iald (q := 1254) 871 rfl c2 c3 ?_
  refine s_aload_n (q := 1255) 872 0 rfl rfl ?_
  refine s_iload_n (q := 1256) 873 3 rfl rfl ?_
  refine s_iconst (q := 1257) 874 rfl ?_
  obtain ⟨c4, h⟩ := h
  refine n_iadd (q := 1258) 875 rfl c4 ?_
  obtain ⟨c5, h⟩ := h
  refine n_iald (q := 1259) 876 rfl c2 c5 ?_
  obtain ⟨c6, h⟩ := h
  refine PW.pick [0, 1, 2, 3] rfl ?_
  exact n_callV (N := mX12_days) (as := [(0, E x0 (x3 + 1)), (0, E x0 (x3 + 2))]) (st := [(0, s0)]) (q := 1262) (d' := 8) 877 rfl uX12_days kL_155 rfl c6 h
set_option maxRecDepth 100000 in
theorem vL_law_1281 {l : Launch} {G : pG} {bg : Nat × Nat} {n : Nat} {K : Int → Nat × Nat} {F E : Int → Int → Int} {Q : Option pV → pM → Prop} (x0 x1 x2 x3 s0 : Int) (h : (-2147483648 ≤ x3 + 1 ∧ x3 + 1 < 2147483648) ∧ (K x0).1 = 20 ∧ ((0 : Int) ≤ x3 + 1 ∧ x3 + 1 < ((K x0).2 : Int)) ∧ (-2147483648 ≤ x3 + 2 ∧ x3 + 2 < 2147483648) ∧ ((0 : Int) ≤ x3 + 2 ∧ x3 + 2 < ((K x0).2 : Int)) ∧ (K x2).1 = 12 ∧ PC l G 2 mX12_drawn (0, 0) [(2, x2), (0, E x0 (x3 + 1)), (0, E x0 (x3 + 2))] (n, K, F, E) (fun r μ => PW l G 84 mL_law bg 1295 [(0, (2, x0)), (1, (2, x1)), (2, (2, x2)), (3, (0, x3))] (r.toList ++ [(0, s0)]) μ Q)) : PW l G 84 mL_law bg 1281 [(0, (2, x0)), (1, (2, x1)), (2, (2, x2)), (3, (0, x3))] [(0, s0)] (n, K, F, E) Q := by
  refine s_aload_n (q := 1282) 893 2 rfl rfl ?_
  refine s_aload_n (q := 1283) 894 0 rfl rfl ?_
  refine s_iload_n (q := 1284) 895 3 rfl rfl ?_
  refine s_iconst (q := 1285) 896 rfl ?_
  obtain ⟨c1, h⟩ := h
  refine n_iadd (q := 1286) 897 rfl c1 ?_
  obtain ⟨c2, h⟩ := h
  obtain ⟨c3, h⟩ := h
  refine n_iald (q := 1287) 898 rfl c2 c3 ?_
  refine s_aload_n (q := 1288) 899 0 rfl rfl ?_
  refine s_iload_n (q := 1289) 900 3 rfl rfl ?_
  refine s_iconst (q := 1290) 901 rfl ?_
  obtain ⟨c4, h⟩ := h
  refine n_iadd (q := 1291) 902 rfl c4 ?_
  obtain ⟨c5, h⟩ := h
  refine n_iald (q := 1292) 903 rfl c2 c5 ?_
  obtain ⟨c6, h⟩ := h
  refine PW.pick [0, 1, 2, 3] rfl ?_
  exact n_callV (N := mX12_drawn) (as := [(0, E x0 (x3 + 1)), (0, E x0 (x3 + 2))]) (st := [(0, s0)]) (q := 1295) (d' := 2) 904 rfl uX12_drawn kL_159 rfl c6 h
set_option maxRecDepth 100000 in
theorem vL_law_1309 {l : Launch} {G : pG} {bg : Nat × Nat} {n : Nat} {K : Int → Nat × Nat} {F E : Int → Int → Int} {Q : Option pV → pM → Prop} (x0 x1 x2 x3 s0 : Int) (h : (-2147483648 ≤ x3 + 1 ∧ x3 + 1 < 2147483648) ∧ (K x0).1 = 20 ∧ ((0 : Int) ≤ x3 + 1 ∧ x3 + 1 < ((K x0).2 : Int)) ∧ (K x2).1 = 12 ∧ PC l G 1 mX12_image (0, 0) [(2, x2), (0, E x0 (x3 + 1))] (n, K, F, E) (fun r μ => PW l G 84 mL_law bg 1318 [(0, (2, x0)), (1, (2, x1)), (2, (2, x2)), (3, (0, x3))] (r.toList ++ [(0, s0)]) μ Q)) : PW l G 84 mL_law bg 1309 [(0, (2, x0)), (1, (2, x1)), (2, (2, x2)), (3, (0, x3))] [(0, s0)] (n, K, F, E) Q := by
  refine s_aload_n (q := 1310) 915 2 rfl rfl ?_
  refine s_aload_n (q := 1311) 916 0 rfl rfl ?_
  refine s_iload_n (q := 1312) 917 3 rfl rfl ?_
  refine s_iconst (q := 1313) 918 rfl ?_
  obtain ⟨c1, h⟩ := h
  refine n_iadd (q := 1314) 919 rfl c1 ?_
  obtain ⟨c2, h⟩ := h
  obtain ⟨c3, h⟩ := h
  refine n_iald (q := 1315) 920 rfl c2 c3 ?_
  obtain ⟨c4, h⟩ := h
  refine PW.pick [0, 1, 2, 3] rfl ?_
  exact n_callV (N := mX12_image) (as := [(0, E x0 (x3 + 1))]) (st := [(0, s0)]) (q := 1318) (d' := 1) 921 rfl uX12_image kL_163 rfl c4 h
set_option maxRecDepth 100000 in
theorem vL_law_1332 {l : Launch} {G : pG} {bg : Nat × Nat} {n : Nat} {K : Int → Nat × Nat} {F E : Int → Int → Int} {Q : Option pV → pM → Prop} (x0 x1 x2 x3 s0 : Int) (h : (-2147483648 ≤ x3 + 1 ∧ x3 + 1 < 2147483648) ∧ (K x0).1 = 20 ∧ ((0 : Int) ≤ x3 + 1 ∧ x3 + 1 < ((K x0).2 : Int)) ∧ (K x2).1 = 12 ∧ PC l G 1 mX12_back (0, 0) [(2, x2), (0, E x0 (x3 + 1))] (n, K, F, E) (fun r μ => PW l G 84 mL_law bg 1341 [(0, (2, x0)), (1, (2, x1)), (2, (2, x2)), (3, (0, x3))] (r.toList ++ [(0, s0)]) μ Q)) : PW l G 84 mL_law bg 1332 [(0, (2, x0)), (1, (2, x1)), (2, (2, x2)), (3, (0, x3))] [(0, s0)] (n, K, F, E) Q := by
  refine s_aload_n (q := 1333) 932 2 rfl rfl ?_
  refine s_aload_n (q := 1334) 933 0 rfl rfl ?_
  refine s_iload_n (q := 1335) 934 3 rfl rfl ?_
  refine s_iconst (q := 1336) 935 rfl ?_
  obtain ⟨c1, h⟩ := h
  refine n_iadd (q := 1337) 936 rfl c1 ?_
  obtain ⟨c2, h⟩ := h
  obtain ⟨c3, h⟩ := h
  refine n_iald (q := 1338) 937 rfl c2 c3 ?_
  obtain ⟨c4, h⟩ := h
  refine PW.pick [0, 1, 2, 3] rfl ?_
  exact n_callV (N := mX12_back) (as := [(0, E x0 (x3 + 1))]) (st := [(0, s0)]) (q := 1341) (d' := 1) 938 rfl uX12_back kL_167 rfl c4 h
set_option maxRecDepth 100000 in
theorem vL_law_1355 {l : Launch} {G : pG} {bg : Nat × Nat} {n : Nat} {K : Int → Nat × Nat} {F E : Int → Int → Int} {Q : Option pV → pM → Prop} (x0 x1 x2 x3 s0 : Int) (h : (-2147483648 ≤ x3 + 1 ∧ x3 + 1 < 2147483648) ∧ (K x0).1 = 20 ∧ ((0 : Int) ≤ x3 + 1 ∧ x3 + 1 < ((K x0).2 : Int)) ∧ (K x2).1 = 12 ∧ PC l G 1 mX12_count (0, 0) [(2, x2), (0, E x0 (x3 + 1))] (n, K, F, E) (fun r μ => PW l G 84 mL_law bg 1364 [(0, (2, x0)), (1, (2, x1)), (2, (2, x2)), (3, (0, x3))] (r.toList ++ [(0, s0)]) μ Q)) : PW l G 84 mL_law bg 1355 [(0, (2, x0)), (1, (2, x1)), (2, (2, x2)), (3, (0, x3))] [(0, s0)] (n, K, F, E) Q := by
  refine s_aload_n (q := 1356) 949 2 rfl rfl ?_
  refine s_aload_n (q := 1357) 950 0 rfl rfl ?_
  refine s_iload_n (q := 1358) 951 3 rfl rfl ?_
  refine s_iconst (q := 1359) 952 rfl ?_
  obtain ⟨c1, h⟩ := h
  refine n_iadd (q := 1360) 953 rfl c1 ?_
  obtain ⟨c2, h⟩ := h
  obtain ⟨c3, h⟩ := h
  refine n_iald (q := 1361) 954 rfl c2 c3 ?_
  obtain ⟨c4, h⟩ := h
  refine PW.pick [0, 1, 2, 3] rfl ?_
  exact n_callV (N := mX12_count) (as := [(0, E x0 (x3 + 1))]) (st := [(0, s0)]) (q := 1364) (d' := 1) 955 rfl uX12_count kL_171 rfl c4 h
set_option maxRecDepth 100000 in
theorem vL_law_1373 {l : Launch} {G : pG} {bg : Nat × Nat} {n : Nat} {K : Int → Nat × Nat} {F E : Int → Int → Int} {Q : Option pV → pM → Prop} (x0 x1 x2 x3 s0 : Int) (h : (K x2).1 = 12 ∧ PC l G 0 mX12_status (0, 0) [(2, x2)] (n, K, F, E) (fun r μ => PW l G 84 mL_law bg 1377 [(0, (2, x0)), (1, (2, x1)), (2, (2, x2)), (3, (0, x3))] (r.toList ++ [(0, s0)]) μ Q)) : PW l G 84 mL_law bg 1373 [(0, (2, x0)), (1, (2, x1)), (2, (2, x2)), (3, (0, x3))] [(0, s0)] (n, K, F, E) Q := by
  refine s_aload_n (q := 1374) 961 2 rfl rfl ?_
  obtain ⟨c1, h⟩ := h
  refine PW.pick [0, 1, 2, 3] rfl ?_
  exact n_callV (N := mX12_status) (as := []) (st := [(0, s0)]) (q := 1377) (d' := 0) 962 rfl uX12_status kL_175 rfl c1 h
