set_option maxRecDepth 100000 in
theorem vL_law_252 {l : Launch} {G : pG} {bg : Nat × Nat} {n : Nat} {K : Int → Nat × Nat} {F E : Int → Int → Int} {Q : Option pV → pM → Prop} (x0 x1 x2 x3 s0 s1 : Int) (h : ((s1 = s0 → PW l G 84 mL_law bg 1382 [(0, (2, x0)), (1, (2, x1)), (2, (2, x2)), (3, (0, x3))] [] (n, K, F, E) Q) ∧ (¬ (s1 = s0) → Q (some (0, 0)) (n, K, F, E)))) : PW l G 84 mL_law bg 252 [(0, (2, x0)), (1, (2, x1)), (2, (2, x2)), (3, (0, x3))] [(0, s0), (0, s1)] (n, K, F, E) Q := by
  refine s_icmp_eq (q := 255) (tgt := 1382) 66 rfl rfl (fun hb => ?_) (fun hb => ?_)
  · skip
    have b1 := hb
    replace h := h.1 hb
    refine PW.pick [0, 1, 2, 3] rfl ?_
    exact h
  · skip
    have b1 := hb
    replace h := h.2 hb
    refine s_iconst (q := 256) 67 rfl ?_
    exact s_zret 68 rfl rfl (by decide) h
set_option maxRecDepth 100000 in
theorem vL_law_305 {l : Launch} {G : pG} {bg : Nat × Nat} {n : Nat} {K : Int → Nat × Nat} {F E : Int → Int → Int} {Q : Option pV → pM → Prop} (x0 x1 x2 x3 s0 s1 : Int) (h : ((s1 = s0 → PW l G 84 mL_law bg 1382 [(0, (2, x0)), (1, (2, x1)), (2, (2, x2)), (3, (0, x3))] [] (n, K, F, E) Q) ∧ (¬ (s1 = s0) → Q (some (0, 0)) (n, K, F, E)))) : PW l G 84 mL_law bg 305 [(0, (2, x0)), (1, (2, x1)), (2, (2, x2)), (3, (0, x3))] [(0, s0), (0, s1)] (n, K, F, E) Q := by
  refine s_icmp_eq (q := 308) (tgt := 1382) 113 rfl rfl (fun hb => ?_) (fun hb => ?_)
  · skip
    have b1 := hb
    replace h := h.1 hb
    refine PW.pick [0, 1, 2, 3] rfl ?_
    exact h
  · skip
    have b1 := hb
    replace h := h.2 hb
    refine s_iconst (q := 309) 114 rfl ?_
    exact s_zret 115 rfl rfl (by decide) h
set_option maxRecDepth 100000 in
theorem vL_law_338 {l : Launch} {G : pG} {bg : Nat × Nat} {n : Nat} {K : Int → Nat × Nat} {F E : Int → Int → Int} {Q : Option pV → pM → Prop} (x0 x1 x2 x3 s0 s1 : Int) (h : ((s1 = s0 → PW l G 84 mL_law bg 1382 [(0, (2, x0)), (1, (2, x1)), (2, (2, x2)), (3, (0, x3))] [] (n, K, F, E) Q) ∧ (¬ (s1 = s0) → Q (some (0, 0)) (n, K, F, E)))) : PW l G 84 mL_law bg 338 [(0, (2, x0)), (1, (2, x1)), (2, (2, x2)), (3, (0, x3))] [(0, s0), (0, s1)] (n, K, F, E) Q := by
  refine s_icmp_eq (q := 341) (tgt := 1382) 140 rfl rfl (fun hb => ?_) (fun hb => ?_)
  · skip
    have b1 := hb
    replace h := h.1 hb
    refine PW.pick [0, 1, 2, 3] rfl ?_
    exact h
  · skip
    have b1 := hb
    replace h := h.2 hb
    refine s_iconst (q := 342) 141 rfl ?_
    exact s_zret 142 rfl rfl (by decide) h
set_option maxRecDepth 100000 in
theorem vL_law_371 {l : Launch} {G : pG} {bg : Nat × Nat} {n : Nat} {K : Int → Nat × Nat} {F E : Int → Int → Int} {Q : Option pV → pM → Prop} (x0 x1 x2 x3 s0 s1 : Int) (h : ((s1 = s0 → PW l G 84 mL_law bg 1382 [(0, (2, x0)), (1, (2, x1)), (2, (2, x2)), (3, (0, x3))] [] (n, K, F, E) Q) ∧ (¬ (s1 = s0) → Q (some (0, 0)) (n, K, F, E)))) : PW l G 84 mL_law bg 371 [(0, (2, x0)), (1, (2, x1)), (2, (2, x2)), (3, (0, x3))] [(0, s0), (0, s1)] (n, K, F, E) Q := by
  refine s_icmp_eq (q := 374) (tgt := 1382) 167 rfl rfl (fun hb => ?_) (fun hb => ?_)
  · skip
    have b1 := hb
    replace h := h.1 hb
    refine PW.pick [0, 1, 2, 3] rfl ?_
    exact h
  · skip
    have b1 := hb
    replace h := h.2 hb
    refine s_iconst (q := 375) 168 rfl ?_
    exact s_zret 169 rfl rfl (by decide) h
set_option maxRecDepth 100000 in
theorem vL_law_414 {l : Launch} {G : pG} {bg : Nat × Nat} {n : Nat} {K : Int → Nat × Nat} {F E : Int → Int → Int} {Q : Option pV → pM → Prop} (x0 x1 x2 x3 s0 s1 : Int) (h : ((s1 = s0 → PW l G 84 mL_law bg 1382 [(0, (2, x0)), (1, (2, x1)), (2, (2, x2)), (3, (0, x3))] [] (n, K, F, E) Q) ∧ (¬ (s1 = s0) → Q (some (0, 0)) (n, K, F, E)))) : PW l G 84 mL_law bg 414 [(0, (2, x0)), (1, (2, x1)), (2, (2, x2)), (3, (0, x3))] [(0, s0), (0, s1)] (n, K, F, E) Q := by
  refine s_icmp_eq (q := 417) (tgt := 1382) 204 rfl rfl (fun hb => ?_) (fun hb => ?_)
  · skip
    have b1 := hb
    replace h := h.1 hb
    refine PW.pick [0, 1, 2, 3] rfl ?_
    exact h
  · skip
    have b1 := hb
    replace h := h.2 hb
    refine s_iconst (q := 418) 205 rfl ?_
    exact s_zret 206 rfl rfl (by decide) h
set_option maxRecDepth 100000 in
theorem vL_law_447 {l : Launch} {G : pG} {bg : Nat × Nat} {n : Nat} {K : Int → Nat × Nat} {F E : Int → Int → Int} {Q : Option pV → pM → Prop} (x0 x1 x2 x3 s0 s1 : Int) (h : ((s1 = s0 → PW l G 84 mL_law bg 1382 [(0, (2, x0)), (1, (2, x1)), (2, (2, x2)), (3, (0, x3))] [] (n, K, F, E) Q) ∧ (¬ (s1 = s0) → Q (some (0, 0)) (n, K, F, E)))) : PW l G 84 mL_law bg 447 [(0, (2, x0)), (1, (2, x1)), (2, (2, x2)), (3, (0, x3))] [(0, s0), (0, s1)] (n, K, F, E) Q := by
  refine s_icmp_eq (q := 450) (tgt := 1382) 231 rfl rfl (fun hb => ?_) (fun hb => ?_)
  · skip
    have b1 := hb
    replace h := h.1 hb
    refine PW.pick [0, 1, 2, 3] rfl ?_
    exact h
  · skip
    have b1 := hb
    replace h := h.2 hb
    refine s_iconst (q := 451) 232 rfl ?_
    exact s_zret 233 rfl rfl (by decide) h
set_option maxRecDepth 100000 in
theorem vL_law_510 {l : Launch} {G : pG} {bg : Nat × Nat} {n : Nat} {K : Int → Nat × Nat} {F E : Int → Int → Int} {Q : Option pV → pM → Prop} (x0 x1 x2 x3 s0 s1 : Int) (h : ((s1 = s0 → PW l G 84 mL_law bg 1382 [(0, (2, x0)), (1, (2, x1)), (2, (2, x2)), (3, (0, x3))] [] (n, K, F, E) Q) ∧ (¬ (s1 = s0) → Q (some (0, 0)) (n, K, F, E)))) : PW l G 84 mL_law bg 510 [(0, (2, x0)), (1, (2, x1)), (2, (2, x2)), (3, (0, x3))] [(0, s0), (0, s1)] (n, K, F, E) Q := by
  refine s_icmp_eq (q := 513) (tgt := 1382) 288 rfl rfl (fun hb => ?_) (fun hb => ?_)
  · skip
    have b1 := hb
    replace h := h.1 hb
    refine PW.pick [0, 1, 2, 3] rfl ?_
    exact h
  · skip
    have b1 := hb
    replace h := h.2 hb
    refine s_iconst (q := 514) 289 rfl ?_
    exact s_zret 290 rfl rfl (by decide) h
set_option maxRecDepth 100000 in
theorem vL_law_533 {l : Launch} {G : pG} {bg : Nat × Nat} {n : Nat} {K : Int → Nat × Nat} {F E : Int → Int → Int} {Q : Option pV → pM → Prop} (x0 x1 x2 x3 s0 s1 : Int) (h : ((s1 = s0 → PW l G 84 mL_law bg 1382 [(0, (2, x0)), (1, (2, x1)), (2, (2, x2)), (3, (0, x3))] [] (n, K, F, E) Q) ∧ (¬ (s1 = s0) → Q (some (0, 0)) (n, K, F, E)))) : PW l G 84 mL_law bg 533 [(0, (2, x0)), (1, (2, x1)), (2, (2, x2)), (3, (0, x3))] [(0, s0), (0, s1)] (n, K, F, E) Q := by
  refine s_icmp_eq (q := 536) (tgt := 1382) 305 rfl rfl (fun hb => ?_) (fun hb => ?_)
  · skip
    have b1 := hb
    replace h := h.1 hb
    refine PW.pick [0, 1, 2, 3] rfl ?_
    exact h
  · skip
    have b1 := hb
    replace h := h.2 hb
    refine s_iconst (q := 537) 306 rfl ?_
    exact s_zret 307 rfl rfl (by decide) h
set_option maxRecDepth 100000 in
theorem vL_law_546 {l : Launch} {G : pG} {bg : Nat × Nat} {n : Nat} {K : Int → Nat × Nat} {F E : Int → Int → Int} {Q : Option pV → pM → Prop} (x0 x1 x2 x3 s0 s1 : Int) (h : ((s1 = s0 → PW l G 84 mL_law bg 1382 [(0, (2, x0)), (1, (2, x1)), (2, (2, x2)), (3, (0, x3))] [] (n, K, F, E) Q) ∧ (¬ (s1 = s0) → Q (some (0, 0)) (n, K, F, E)))) : PW l G 84 mL_law bg 546 [(0, (2, x0)), (1, (2, x1)), (2, (2, x2)), (3, (0, x3))] [(0, s0), (0, s1)] (n, K, F, E) Q := by
  refine s_icmp_eq (q := 549) (tgt := 1382) 312 rfl rfl (fun hb => ?_) (fun hb => ?_)
  · skip
    have b1 := hb
    replace h := h.1 hb
    refine PW.pick [0, 1, 2, 3] rfl ?_
    exact h
  · skip
    have b1 := hb
    replace h := h.2 hb
    refine s_iconst (q := 550) 313 rfl ?_
    exact s_zret 314 rfl rfl (by decide) h
set_option maxRecDepth 100000 in
theorem vL_law_559 {l : Launch} {G : pG} {bg : Nat × Nat} {n : Nat} {K : Int → Nat × Nat} {F E : Int → Int → Int} {Q : Option pV → pM → Prop} (x0 x1 x2 x3 s0 s1 : Int) (h : ((s1 = s0 → PW l G 84 mL_law bg 1382 [(0, (2, x0)), (1, (2, x1)), (2, (2, x2)), (3, (0, x3))] [] (n, K, F, E) Q) ∧ (¬ (s1 = s0) → Q (some (0, 0)) (n, K, F, E)))) : PW l G 84 mL_law bg 559 [(0, (2, x0)), (1, (2, x1)), (2, (2, x2)), (3, (0, x3))] [(0, s0), (0, s1)] (n, K, F, E) Q := by
  refine s_icmp_eq (q := 562) (tgt := 1382) 319 rfl rfl (fun hb => ?_) (fun hb => ?_)
  · skip
    have b1 := hb
    replace h := h.1 hb
    refine PW.pick [0, 1, 2, 3] rfl ?_
    exact h
  · skip
    have b1 := hb
    replace h := h.2 hb
    refine s_iconst (q := 563) 320 rfl ?_
    exact s_zret 321 rfl rfl (by decide) h
set_option maxRecDepth 100000 in
theorem vL_law_572 {l : Launch} {G : pG} {bg : Nat × Nat} {n : Nat} {K : Int → Nat × Nat} {F E : Int → Int → Int} {Q : Option pV → pM → Prop} (x0 x1 x2 x3 s0 s1 : Int) (h : ((s1 = s0 → PW l G 84 mL_law bg 1382 [(0, (2, x0)), (1, (2, x1)), (2, (2, x2)), (3, (0, x3))] [] (n, K, F, E) Q) ∧ (¬ (s1 = s0) → Q (some (0, 0)) (n, K, F, E)))) : PW l G 84 mL_law bg 572 [(0, (2, x0)), (1, (2, x1)), (2, (2, x2)), (3, (0, x3))] [(0, s0), (0, s1)] (n, K, F, E) Q := by
  refine s_icmp_eq (q := 575) (tgt := 1382) 326 rfl rfl (fun hb => ?_) (fun hb => ?_)
  · skip
    have b1 := hb
    replace h := h.1 hb
    refine PW.pick [0, 1, 2, 3] rfl ?_
    exact h
  · skip
    have b1 := hb
    replace h := h.2 hb
    refine s_iconst (q := 576) 327 rfl ?_
    exact s_zret 328 rfl rfl (by decide) h
set_option maxRecDepth 100000 in
theorem vL_law_585 {l : Launch} {G : pG} {bg : Nat × Nat} {n : Nat} {K : Int → Nat × Nat} {F E : Int → Int → Int} {Q : Option pV → pM → Prop} (x0 x1 x2 x3 s0 s1 : Int) (h : ((s1 = s0 → PW l G 84 mL_law bg 1382 [(0, (2, x0)), (1, (2, x1)), (2, (2, x2)), (3, (0, x3))] [] (n, K, F, E) Q) ∧ (¬ (s1 = s0) → Q (some (0, 0)) (n, K, F, E)))) : PW l G 84 mL_law bg 585 [(0, (2, x0)), (1, (2, x1)), (2, (2, x2)), (3, (0, x3))] [(0, s0), (0, s1)] (n, K, F, E) Q := by
  refine s_icmp_eq (q := 588) (tgt := 1382) 333 rfl rfl (fun hb => ?_) (fun hb => ?_)
  · skip
    have b1 := hb
    replace h := h.1 hb
    refine PW.pick [0, 1, 2, 3] rfl ?_
    exact h
  · skip
    have b1 := hb
    replace h := h.2 hb
    refine s_iconst (q := 589) 334 rfl ?_
    exact s_zret 335 rfl rfl (by decide) h
set_option maxRecDepth 100000 in
theorem vL_law_598 {l : Launch} {G : pG} {bg : Nat × Nat} {n : Nat} {K : Int → Nat × Nat} {F E : Int → Int → Int} {Q : Option pV → pM → Prop} (x0 x1 x2 x3 s0 s1 : Int) (h : ((s1 = s0 → PW l G 84 mL_law bg 1382 [(0, (2, x0)), (1, (2, x1)), (2, (2, x2)), (3, (0, x3))] [] (n, K, F, E) Q) ∧ (¬ (s1 = s0) → Q (some (0, 0)) (n, K, F, E)))) : PW l G 84 mL_law bg 598 [(0, (2, x0)), (1, (2, x1)), (2, (2, x2)), (3, (0, x3))] [(0, s0), (0, s1)] (n, K, F, E) Q := by
  refine s_icmp_eq (q := 601) (tgt := 1382) 340 rfl rfl (fun hb => ?_) (fun hb => ?_)
  · skip
    have b1 := hb
    replace h := h.1 hb
    refine PW.pick [0, 1, 2, 3] rfl ?_
    exact h
  · skip
    have b1 := hb
    replace h := h.2 hb
    refine s_iconst (q := 602) 341 rfl ?_
    exact s_zret 342 rfl rfl (by decide) h
set_option maxRecDepth 100000 in
theorem vL_law_611 {l : Launch} {G : pG} {bg : Nat × Nat} {n : Nat} {K : Int → Nat × Nat} {F E : Int → Int → Int} {Q : Option pV → pM → Prop} (x0 x1 x2 x3 s0 s1 : Int) (h : ((s1 = s0 → PW l G 84 mL_law bg 1382 [(0, (2, x0)), (1, (2, x1)), (2, (2, x2)), (3, (0, x3))] [] (n, K, F, E) Q) ∧ (¬ (s1 = s0) → Q (some (0, 0)) (n, K, F, E)))) : PW l G 84 mL_law bg 611 [(0, (2, x0)), (1, (2, x1)), (2, (2, x2)), (3, (0, x3))] [(0, s0), (0, s1)] (n, K, F, E) Q := by
  refine s_icmp_eq (q := 614) (tgt := 1382) 347 rfl rfl (fun hb => ?_) (fun hb => ?_)
  · skip
    have b1 := hb
    replace h := h.1 hb
    refine PW.pick [0, 1, 2, 3] rfl ?_
    exact h
  · skip
    have b1 := hb
    replace h := h.2 hb
    refine s_iconst (q := 615) 348 rfl ?_
    exact s_zret 349 rfl rfl (by decide) h
set_option maxRecDepth 100000 in
theorem vL_law_634 {l : Launch} {G : pG} {bg : Nat × Nat} {n : Nat} {K : Int → Nat × Nat} {F E : Int → Int → Int} {Q : Option pV → pM → Prop} (x0 x1 x2 x3 s0 s1 : Int) (h : ((s1 = s0 → PW l G 84 mL_law bg 1382 [(0, (2, x0)), (1, (2, x1)), (2, (2, x2)), (3, (0, x3))] [] (n, K, F, E) Q) ∧ (¬ (s1 = s0) → Q (some (0, 0)) (n, K, F, E)))) : PW l G 84 mL_law bg 634 [(0, (2, x0)), (1, (2, x1)), (2, (2, x2)), (3, (0, x3))] [(0, s0), (0, s1)] (n, K, F, E) Q := by
  refine s_icmp_eq (q := 637) (tgt := 1382) 364 rfl rfl (fun hb => ?_) (fun hb => ?_)
  · skip
    have b1 := hb
    replace h := h.1 hb
    refine PW.pick [0, 1, 2, 3] rfl ?_
    exact h
  · skip
    have b1 := hb
    replace h := h.2 hb
    refine s_iconst (q := 638) 365 rfl ?_
    exact s_zret 366 rfl rfl (by decide) h
set_option maxRecDepth 100000 in
theorem vL_law_677 {l : Launch} {G : pG} {bg : Nat × Nat} {n : Nat} {K : Int → Nat × Nat} {F E : Int → Int → Int} {Q : Option pV → pM → Prop} (x0 x1 x2 x3 s0 s1 : Int) (h : ((s1 = s0 → PW l G 84 mL_law bg 1382 [(0, (2, x0)), (1, (2, x1)), (2, (2, x2)), (3, (0, x3))] [] (n, K, F, E) Q) ∧ (¬ (s1 = s0) → Q (some (0, 0)) (n, K, F, E)))) : PW l G 84 mL_law bg 677 [(0, (2, x0)), (1, (2, x1)), (2, (2, x2)), (3, (0, x3))] [(0, s0), (0, s1)] (n, K, F, E) Q := by
  refine s_icmp_eq (q := 680) (tgt := 1382) 401 rfl rfl (fun hb => ?_) (fun hb => ?_)
  · skip
    have b1 := hb
    replace h := h.1 hb
    refine PW.pick [0, 1, 2, 3] rfl ?_
    exact h
  · skip
    have b1 := hb
    replace h := h.2 hb
    refine s_iconst (q := 681) 402 rfl ?_
    exact s_zret 403 rfl rfl (by decide) h
set_option maxRecDepth 100000 in
theorem vL_law_700 {l : Launch} {G : pG} {bg : Nat × Nat} {n : Nat} {K : Int → Nat × Nat} {F E : Int → Int → Int} {Q : Option pV → pM → Prop} (x0 x1 x2 x3 s0 s1 : Int) (h : ((s1 = s0 → PW l G 84 mL_law bg 1382 [(0, (2, x0)), (1, (2, x1)), (2, (2, x2)), (3, (0, x3))] [] (n, K, F, E) Q) ∧ (¬ (s1 = s0) → Q (some (0, 0)) (n, K, F, E)))) : PW l G 84 mL_law bg 700 [(0, (2, x0)), (1, (2, x1)), (2, (2, x2)), (3, (0, x3))] [(0, s0), (0, s1)] (n, K, F, E) Q := by
  refine s_icmp_eq (q := 703) (tgt := 1382) 418 rfl rfl (fun hb => ?_) (fun hb => ?_)
  · skip
    have b1 := hb
    replace h := h.1 hb
    refine PW.pick [0, 1, 2, 3] rfl ?_
    exact h
  · skip
    have b1 := hb
    replace h := h.2 hb
    refine s_iconst (q := 704) 419 rfl ?_
    exact s_zret 420 rfl rfl (by decide) h
set_option maxRecDepth 100000 in
theorem vL_law_733 {l : Launch} {G : pG} {bg : Nat × Nat} {n : Nat} {K : Int → Nat × Nat} {F E : Int → Int → Int} {Q : Option pV → pM → Prop} (x0 x1 x2 x3 s0 s1 : Int) (h : ((s1 = s0 → PW l G 84 mL_law bg 1382 [(0, (2, x0)), (1, (2, x1)), (2, (2, x2)), (3, (0, x3))] [] (n, K, F, E) Q) ∧ (¬ (s1 = s0) → Q (some (0, 0)) (n, K, F, E)))) : PW l G 84 mL_law bg 733 [(0, (2, x0)), (1, (2, x1)), (2, (2, x2)), (3, (0, x3))] [(0, s0), (0, s1)] (n, K, F, E) Q := by
  refine s_icmp_eq (q := 736) (tgt := 1382) 445 rfl rfl (fun hb => ?_) (fun hb => ?_)
  · skip
    have b1 := hb
    replace h := h.1 hb
    refine PW.pick [0, 1, 2, 3] rfl ?_
    exact h
  · skip
    have b1 := hb
    replace h := h.2 hb
    refine s_iconst (q := 737) 446 rfl ?_
    exact s_zret 447 rfl rfl (by decide) h
set_option maxRecDepth 100000 in
theorem vL_law_766 {l : Launch} {G : pG} {bg : Nat × Nat} {n : Nat} {K : Int → Nat × Nat} {F E : Int → Int → Int} {Q : Option pV → pM → Prop} (x0 x1 x2 x3 s0 s1 : Int) (h : ((s1 = s0 → PW l G 84 mL_law bg 1382 [(0, (2, x0)), (1, (2, x1)), (2, (2, x2)), (3, (0, x3))] [] (n, K, F, E) Q) ∧ (¬ (s1 = s0) → Q (some (0, 0)) (n, K, F, E)))) : PW l G 84 mL_law bg 766 [(0, (2, x0)), (1, (2, x1)), (2, (2, x2)), (3, (0, x3))] [(0, s0), (0, s1)] (n, K, F, E) Q := by
  refine s_icmp_eq (q := 769) (tgt := 1382) 472 rfl rfl (fun hb => ?_) (fun hb => ?_)
  · skip
    have b1 := hb
    replace h := h.1 hb
    refine PW.pick [0, 1, 2, 3] rfl ?_
    exact h
  · skip
    have b1 := hb
    replace h := h.2 hb
    refine s_iconst (q := 770) 473 rfl ?_
    exact s_zret 474 rfl rfl (by decide) h
set_option maxRecDepth 100000 in
theorem vL_law_779 {l : Launch} {G : pG} {bg : Nat × Nat} {n : Nat} {K : Int → Nat × Nat} {F E : Int → Int → Int} {Q : Option pV → pM → Prop} (x0 x1 x2 x3 s0 s1 : Int) (h : ((s1 = s0 → PW l G 84 mL_law bg 1382 [(0, (2, x0)), (1, (2, x1)), (2, (2, x2)), (3, (0, x3))] [] (n, K, F, E) Q) ∧ (¬ (s1 = s0) → Q (some (0, 0)) (n, K, F, E)))) : PW l G 84 mL_law bg 779 [(0, (2, x0)), (1, (2, x1)), (2, (2, x2)), (3, (0, x3))] [(0, s0), (0, s1)] (n, K, F, E) Q := by
  refine s_icmp_eq (q := 782) (tgt := 1382) 479 rfl rfl (fun hb => ?_) (fun hb => ?_)
  · skip
    have b1 := hb
    replace h := h.1 hb
    refine PW.pick [0, 1, 2, 3] rfl ?_
    exact h
  · skip
    have b1 := hb
    replace h := h.2 hb
    refine s_iconst (q := 783) 480 rfl ?_
    exact s_zret 481 rfl rfl (by decide) h
set_option maxRecDepth 100000 in
theorem vL_law_812 {l : Launch} {G : pG} {bg : Nat × Nat} {n : Nat} {K : Int → Nat × Nat} {F E : Int → Int → Int} {Q : Option pV → pM → Prop} (x0 x1 x2 x3 s0 s1 : Int) (h : ((s1 = s0 → PW l G 84 mL_law bg 1382 [(0, (2, x0)), (1, (2, x1)), (2, (2, x2)), (3, (0, x3))] [] (n, K, F, E) Q) ∧ (¬ (s1 = s0) → Q (some (0, 0)) (n, K, F, E)))) : PW l G 84 mL_law bg 812 [(0, (2, x0)), (1, (2, x1)), (2, (2, x2)), (3, (0, x3))] [(0, s0), (0, s1)] (n, K, F, E) Q := by
  refine s_icmp_eq (q := 815) (tgt := 1382) 506 rfl rfl (fun hb => ?_) (fun hb => ?_)
  · skip
    have b1 := hb
    replace h := h.1 hb
    refine PW.pick [0, 1, 2, 3] rfl ?_
    exact h
  · skip
    have b1 := hb
    replace h := h.2 hb
    refine s_iconst (q := 816) 507 rfl ?_
    exact s_zret 508 rfl rfl (by decide) h
set_option maxRecDepth 100000 in
theorem vL_law_835 {l : Launch} {G : pG} {bg : Nat × Nat} {n : Nat} {K : Int → Nat × Nat} {F E : Int → Int → Int} {Q : Option pV → pM → Prop} (x0 x1 x2 x3 s0 s1 : Int) (h : ((s1 = s0 → PW l G 84 mL_law bg 1382 [(0, (2, x0)), (1, (2, x1)), (2, (2, x2)), (3, (0, x3))] [] (n, K, F, E) Q) ∧ (¬ (s1 = s0) → Q (some (0, 0)) (n, K, F, E)))) : PW l G 84 mL_law bg 835 [(0, (2, x0)), (1, (2, x1)), (2, (2, x2)), (3, (0, x3))] [(0, s0), (0, s1)] (n, K, F, E) Q := by
  refine s_icmp_eq (q := 838) (tgt := 1382) 523 rfl rfl (fun hb => ?_) (fun hb => ?_)
  · skip
    have b1 := hb
    replace h := h.1 hb
    refine PW.pick [0, 1, 2, 3] rfl ?_
    exact h
  · skip
    have b1 := hb
    replace h := h.2 hb
    refine s_iconst (q := 839) 524 rfl ?_
    exact s_zret 525 rfl rfl (by decide) h
set_option maxRecDepth 100000 in
theorem vL_law_848 {l : Launch} {G : pG} {bg : Nat × Nat} {n : Nat} {K : Int → Nat × Nat} {F E : Int → Int → Int} {Q : Option pV → pM → Prop} (x0 x1 x2 x3 s0 s1 : Int) (h : ((s1 = s0 → PW l G 84 mL_law bg 1382 [(0, (2, x0)), (1, (2, x1)), (2, (2, x2)), (3, (0, x3))] [] (n, K, F, E) Q) ∧ (¬ (s1 = s0) → Q (some (0, 0)) (n, K, F, E)))) : PW l G 84 mL_law bg 848 [(0, (2, x0)), (1, (2, x1)), (2, (2, x2)), (3, (0, x3))] [(0, s0), (0, s1)] (n, K, F, E) Q := by
  refine s_icmp_eq (q := 851) (tgt := 1382) 530 rfl rfl (fun hb => ?_) (fun hb => ?_)
  · skip
    have b1 := hb
    replace h := h.1 hb
    refine PW.pick [0, 1, 2, 3] rfl ?_
    exact h
  · skip
    have b1 := hb
    replace h := h.2 hb
    refine s_iconst (q := 852) 531 rfl ?_
    exact s_zret 532 rfl rfl (by decide) h
set_option maxRecDepth 100000 in
theorem vL_law_901 {l : Launch} {G : pG} {bg : Nat × Nat} {n : Nat} {K : Int → Nat × Nat} {F E : Int → Int → Int} {Q : Option pV → pM → Prop} (x0 x1 x2 x3 s0 s1 : Int) (h : ((s1 = s0 → PW l G 84 mL_law bg 1382 [(0, (2, x0)), (1, (2, x1)), (2, (2, x2)), (3, (0, x3))] [] (n, K, F, E) Q) ∧ (¬ (s1 = s0) → Q (some (0, 0)) (n, K, F, E)))) : PW l G 84 mL_law bg 901 [(0, (2, x0)), (1, (2, x1)), (2, (2, x2)), (3, (0, x3))] [(0, s0), (0, s1)] (n, K, F, E) Q := by
  refine s_icmp_eq (q := 904) (tgt := 1382) 577 rfl rfl (fun hb => ?_) (fun hb => ?_)
  · skip
    have b1 := hb
    replace h := h.1 hb
    refine PW.pick [0, 1, 2, 3] rfl ?_
    exact h
  · skip
    have b1 := hb
    replace h := h.2 hb
    refine s_iconst (q := 905) 578 rfl ?_
    exact s_zret 579 rfl rfl (by decide) h
set_option maxRecDepth 100000 in
theorem vL_law_954 {l : Launch} {G : pG} {bg : Nat × Nat} {n : Nat} {K : Int → Nat × Nat} {F E : Int → Int → Int} {Q : Option pV → pM → Prop} (x0 x1 x2 x3 s0 s1 : Int) (h : ((s1 = s0 → PW l G 84 mL_law bg 1382 [(0, (2, x0)), (1, (2, x1)), (2, (2, x2)), (3, (0, x3))] [] (n, K, F, E) Q) ∧ (¬ (s1 = s0) → Q (some (0, 0)) (n, K, F, E)))) : PW l G 84 mL_law bg 954 [(0, (2, x0)), (1, (2, x1)), (2, (2, x2)), (3, (0, x3))] [(0, s0), (0, s1)] (n, K, F, E) Q := by
  refine s_icmp_eq (q := 957) (tgt := 1382) 624 rfl rfl (fun hb => ?_) (fun hb => ?_)
  · skip
    have b1 := hb
    replace h := h.1 hb
    refine PW.pick [0, 1, 2, 3] rfl ?_
    exact h
  · skip
    have b1 := hb
    replace h := h.2 hb
    refine s_iconst (q := 958) 625 rfl ?_
    exact s_zret 626 rfl rfl (by decide) h
set_option maxRecDepth 100000 in
theorem vL_law_997 {l : Launch} {G : pG} {bg : Nat × Nat} {n : Nat} {K : Int → Nat × Nat} {F E : Int → Int → Int} {Q : Option pV → pM → Prop} (x0 x1 x2 x3 s0 s1 : Int) (h : ((s1 = s0 → PW l G 84 mL_law bg 1382 [(0, (2, x0)), (1, (2, x1)), (2, (2, x2)), (3, (0, x3))] [] (n, K, F, E) Q) ∧ (¬ (s1 = s0) → Q (some (0, 0)) (n, K, F, E)))) : PW l G 84 mL_law bg 997 [(0, (2, x0)), (1, (2, x1)), (2, (2, x2)), (3, (0, x3))] [(0, s0), (0, s1)] (n, K, F, E) Q := by
  refine s_icmp_eq (q := 1000) (tgt := 1382) 661 rfl rfl (fun hb => ?_) (fun hb => ?_)
  · skip
    have b1 := hb
    replace h := h.1 hb
    refine PW.pick [0, 1, 2, 3] rfl ?_
    exact h
  · skip
    have b1 := hb
    replace h := h.2 hb
    refine s_iconst (q := 1001) 662 rfl ?_
    exact s_zret 663 rfl rfl (by decide) h
set_option maxRecDepth 100000 in
theorem vL_law_1050 {l : Launch} {G : pG} {bg : Nat × Nat} {n : Nat} {K : Int → Nat × Nat} {F E : Int → Int → Int} {Q : Option pV → pM → Prop} (x0 x1 x2 x3 s0 s1 : Int) (h : ((s1 = s0 → PW l G 84 mL_law bg 1382 [(0, (2, x0)), (1, (2, x1)), (2, (2, x2)), (3, (0, x3))] [] (n, K, F, E) Q) ∧ (¬ (s1 = s0) → Q (some (0, 0)) (n, K, F, E)))) : PW l G 84 mL_law bg 1050 [(0, (2, x0)), (1, (2, x1)), (2, (2, x2)), (3, (0, x3))] [(0, s0), (0, s1)] (n, K, F, E) Q := by
  refine s_icmp_eq (q := 1053) (tgt := 1382) 708 rfl rfl (fun hb => ?_) (fun hb => ?_)
  · skip
    have b1 := hb
    replace h := h.1 hb
    refine PW.pick [0, 1, 2, 3] rfl ?_
    exact h
  · skip
    have b1 := hb
    replace h := h.2 hb
    refine s_iconst (q := 1054) 709 rfl ?_
    exact s_zret 710 rfl rfl (by decide) h
set_option maxRecDepth 100000 in
theorem vL_law_1083 {l : Launch} {G : pG} {bg : Nat × Nat} {n : Nat} {K : Int → Nat × Nat} {F E : Int → Int → Int} {Q : Option pV → pM → Prop} (x0 x1 x2 x3 s0 s1 : Int) (h : ((s1 = s0 → PW l G 84 mL_law bg 1382 [(0, (2, x0)), (1, (2, x1)), (2, (2, x2)), (3, (0, x3))] [] (n, K, F, E) Q) ∧ (¬ (s1 = s0) → Q (some (0, 0)) (n, K, F, E)))) : PW l G 84 mL_law bg 1083 [(0, (2, x0)), (1, (2, x1)), (2, (2, x2)), (3, (0, x3))] [(0, s0), (0, s1)] (n, K, F, E) Q := by
  refine s_icmp_eq (q := 1086) (tgt := 1382) 735 rfl rfl (fun hb => ?_) (fun hb => ?_)
  · skip
    have b1 := hb
    replace h := h.1 hb
    refine PW.pick [0, 1, 2, 3] rfl ?_
    exact h
  · skip
    have b1 := hb
    replace h := h.2 hb
    refine s_iconst (q := 1087) 736 rfl ?_
    exact s_zret 737 rfl rfl (by decide) h
set_option maxRecDepth 100000 in
theorem vL_law_1096 {l : Launch} {G : pG} {bg : Nat × Nat} {n : Nat} {K : Int → Nat × Nat} {F E : Int → Int → Int} {Q : Option pV → pM → Prop} (x0 x1 x2 x3 s0 s1 : Int) (h : ((s1 = s0 → PW l G 84 mL_law bg 1382 [(0, (2, x0)), (1, (2, x1)), (2, (2, x2)), (3, (0, x3))] [] (n, K, F, E) Q) ∧ (¬ (s1 = s0) → Q (some (0, 0)) (n, K, F, E)))) : PW l G 84 mL_law bg 1096 [(0, (2, x0)), (1, (2, x1)), (2, (2, x2)), (3, (0, x3))] [(0, s0), (0, s1)] (n, K, F, E) Q := by
  refine s_icmp_eq (q := 1099) (tgt := 1382) 742 rfl rfl (fun hb => ?_) (fun hb => ?_)
  · skip
    have b1 := hb
    replace h := h.1 hb
    refine PW.pick [0, 1, 2, 3] rfl ?_
    exact h
  · skip
    have b1 := hb
    replace h := h.2 hb
    refine s_iconst (q := 1100) 743 rfl ?_
    exact s_zret 744 rfl rfl (by decide) h
set_option maxRecDepth 100000 in
theorem vL_law_1119 {l : Launch} {G : pG} {bg : Nat × Nat} {n : Nat} {K : Int → Nat × Nat} {F E : Int → Int → Int} {Q : Option pV → pM → Prop} (x0 x1 x2 x3 s0 s1 : Int) (h : ((s1 = s0 → PW l G 84 mL_law bg 1382 [(0, (2, x0)), (1, (2, x1)), (2, (2, x2)), (3, (0, x3))] [] (n, K, F, E) Q) ∧ (¬ (s1 = s0) → Q (some (0, 0)) (n, K, F, E)))) : PW l G 84 mL_law bg 1119 [(0, (2, x0)), (1, (2, x1)), (2, (2, x2)), (3, (0, x3))] [(0, s0), (0, s1)] (n, K, F, E) Q := by
  refine s_icmp_eq (q := 1122) (tgt := 1382) 759 rfl rfl (fun hb => ?_) (fun hb => ?_)
  · skip
    have b1 := hb
    replace h := h.1 hb
    refine PW.pick [0, 1, 2, 3] rfl ?_
    exact h
  · skip
    have b1 := hb
    replace h := h.2 hb
    refine s_iconst (q := 1123) 760 rfl ?_
    exact s_zret 761 rfl rfl (by decide) h
set_option maxRecDepth 100000 in
theorem vL_law_1142 {l : Launch} {G : pG} {bg : Nat × Nat} {n : Nat} {K : Int → Nat × Nat} {F E : Int → Int → Int} {Q : Option pV → pM → Prop} (x0 x1 x2 x3 s0 s1 : Int) (h : ((s1 = s0 → PW l G 84 mL_law bg 1382 [(0, (2, x0)), (1, (2, x1)), (2, (2, x2)), (3, (0, x3))] [] (n, K, F, E) Q) ∧ (¬ (s1 = s0) → Q (some (0, 0)) (n, K, F, E)))) : PW l G 84 mL_law bg 1142 [(0, (2, x0)), (1, (2, x1)), (2, (2, x2)), (3, (0, x3))] [(0, s0), (0, s1)] (n, K, F, E) Q := by
  refine s_icmp_eq (q := 1145) (tgt := 1382) 776 rfl rfl (fun hb => ?_) (fun hb => ?_)
  · skip
    have b1 := hb
    replace h := h.1 hb
    refine PW.pick [0, 1, 2, 3] rfl ?_
    exact h
  · skip
    have b1 := hb
    replace h := h.2 hb
    refine s_iconst (q := 1146) 777 rfl ?_
    exact s_zret 778 rfl rfl (by decide) h
set_option maxRecDepth 100000 in
theorem vL_law_1175 {l : Launch} {G : pG} {bg : Nat × Nat} {n : Nat} {K : Int → Nat × Nat} {F E : Int → Int → Int} {Q : Option pV → pM → Prop} (x0 x1 x2 x3 s0 s1 : Int) (h : ((s1 = s0 → PW l G 84 mL_law bg 1382 [(0, (2, x0)), (1, (2, x1)), (2, (2, x2)), (3, (0, x3))] [] (n, K, F, E) Q) ∧ (¬ (s1 = s0) → Q (some (0, 0)) (n, K, F, E)))) : PW l G 84 mL_law bg 1175 [(0, (2, x0)), (1, (2, x1)), (2, (2, x2)), (3, (0, x3))] [(1, s0), (1, s1)] (n, K, F, E) Q := by
  refine s_lcmp (q := 1176) 803 rfl ?_
  refine s_if_eq (q := 1179) (tgt := 1382) 804 rfl rfl (fun hb => ?_) (fun hb => ?_)
  · have hb := lCmp_eq.mp hb
    have b1 := hb
    replace h := h.1 hb
    refine PW.pick [0, 1, 2, 3] rfl ?_
    exact h
  · have hb := mt lCmp_eq.mpr hb
    have b1 := hb
    replace h := h.2 hb
    refine s_iconst (q := 1180) 805 rfl ?_
    exact s_zret 806 rfl rfl (by decide) h
set_option maxRecDepth 100000 in
theorem vL_law_1229 {l : Launch} {G : pG} {bg : Nat × Nat} {n : Nat} {K : Int → Nat × Nat} {F E : Int → Int → Int} {Q : Option pV → pM → Prop} (x0 x1 x2 x3 s0 s1 : Int) (h : ((s1 = s0 → PW l G 84 mL_law bg 1382 [(0, (2, x0)), (1, (2, x1)), (2, (2, x2)), (3, (0, x3))] [] (n, K, F, E) Q) ∧ (¬ (s1 = s0) → Q (some (0, 0)) (n, K, F, E)))) : PW l G 84 mL_law bg 1229 [(0, (2, x0)), (1, (2, x1)), (2, (2, x2)), (3, (0, x3))] [(0, s0), (0, s1)] (n, K, F, E) Q := by
  refine s_icmp_eq (q := 1232) (tgt := 1382) 851 rfl rfl (fun hb => ?_) (fun hb => ?_)
  · skip
    have b1 := hb
    replace h := h.1 hb
    refine PW.pick [0, 1, 2, 3] rfl ?_
    exact h
  · skip
    have b1 := hb
    replace h := h.2 hb
    refine s_iconst (q := 1233) 852 rfl ?_
    exact s_zret 853 rfl rfl (by decide) h
set_option maxRecDepth 100000 in
theorem vL_law_1262 {l : Launch} {G : pG} {bg : Nat × Nat} {n : Nat} {K : Int → Nat × Nat} {F E : Int → Int → Int} {Q : Option pV → pM → Prop} (x0 x1 x2 x3 s0 s1 : Int) (h : ((s1 = s0 → PW l G 84 mL_law bg 1382 [(0, (2, x0)), (1, (2, x1)), (2, (2, x2)), (3, (0, x3))] [] (n, K, F, E) Q) ∧ (¬ (s1 = s0) → Q (some (0, 0)) (n, K, F, E)))) : PW l G 84 mL_law bg 1262 [(0, (2, x0)), (1, (2, x1)), (2, (2, x2)), (3, (0, x3))] [(0, s0), (0, s1)] (n, K, F, E) Q := by
  refine s_icmp_eq (q := 1265) (tgt := 1382) 878 rfl rfl (fun hb => ?_) (fun hb => ?_)
  · skip
    have b1 := hb
    replace h := h.1 hb
    refine PW.pick [0, 1, 2, 3] rfl ?_
    exact h
  · skip
    have b1 := hb
    replace h := h.2 hb
    refine s_iconst (q := 1266) 879 rfl ?_
    exact s_zret 880 rfl rfl (by decide) h
set_option maxRecDepth 100000 in
theorem vL_law_1295 {l : Launch} {G : pG} {bg : Nat × Nat} {n : Nat} {K : Int → Nat × Nat} {F E : Int → Int → Int} {Q : Option pV → pM → Prop} (x0 x1 x2 x3 s0 s1 : Int) (h : ((s1 = s0 → PW l G 84 mL_law bg 1382 [(0, (2, x0)), (1, (2, x1)), (2, (2, x2)), (3, (0, x3))] [] (n, K, F, E) Q) ∧ (¬ (s1 = s0) → Q (some (0, 0)) (n, K, F, E)))) : PW l G 84 mL_law bg 1295 [(0, (2, x0)), (1, (2, x1)), (2, (2, x2)), (3, (0, x3))] [(0, s0), (0, s1)] (n, K, F, E) Q := by
  refine s_icmp_eq (q := 1298) (tgt := 1382) 905 rfl rfl (fun hb => ?_) (fun hb => ?_)
  · skip
    have b1 := hb
    replace h := h.1 hb
    refine PW.pick [0, 1, 2, 3] rfl ?_
    exact h
  · skip
    have b1 := hb
    replace h := h.2 hb
    refine s_iconst (q := 1299) 906 rfl ?_
    exact s_zret 907 rfl rfl (by decide) h
set_option maxRecDepth 100000 in
theorem vL_law_1318 {l : Launch} {G : pG} {bg : Nat × Nat} {n : Nat} {K : Int → Nat × Nat} {F E : Int → Int → Int} {Q : Option pV → pM → Prop} (x0 x1 x2 x3 s0 s1 : Int) (h : ((s1 = s0 → PW l G 84 mL_law bg 1382 [(0, (2, x0)), (1, (2, x1)), (2, (2, x2)), (3, (0, x3))] [] (n, K, F, E) Q) ∧ (¬ (s1 = s0) → Q (some (0, 0)) (n, K, F, E)))) : PW l G 84 mL_law bg 1318 [(0, (2, x0)), (1, (2, x1)), (2, (2, x2)), (3, (0, x3))] [(0, s0), (0, s1)] (n, K, F, E) Q := by
  refine s_icmp_eq (q := 1321) (tgt := 1382) 922 rfl rfl (fun hb => ?_) (fun hb => ?_)
  · skip
    have b1 := hb
    replace h := h.1 hb
    refine PW.pick [0, 1, 2, 3] rfl ?_
    exact h
  · skip
    have b1 := hb
    replace h := h.2 hb
    refine s_iconst (q := 1322) 923 rfl ?_
    exact s_zret 924 rfl rfl (by decide) h
set_option maxRecDepth 100000 in
theorem vL_law_1341 {l : Launch} {G : pG} {bg : Nat × Nat} {n : Nat} {K : Int → Nat × Nat} {F E : Int → Int → Int} {Q : Option pV → pM → Prop} (x0 x1 x2 x3 s0 s1 : Int) (h : ((s1 = s0 → PW l G 84 mL_law bg 1382 [(0, (2, x0)), (1, (2, x1)), (2, (2, x2)), (3, (0, x3))] [] (n, K, F, E) Q) ∧ (¬ (s1 = s0) → Q (some (0, 0)) (n, K, F, E)))) : PW l G 84 mL_law bg 1341 [(0, (2, x0)), (1, (2, x1)), (2, (2, x2)), (3, (0, x3))] [(0, s0), (0, s1)] (n, K, F, E) Q := by
  refine s_icmp_eq (q := 1344) (tgt := 1382) 939 rfl rfl (fun hb => ?_) (fun hb => ?_)
  · skip
    have b1 := hb
    replace h := h.1 hb
    refine PW.pick [0, 1, 2, 3] rfl ?_
    exact h
  · skip
    have b1 := hb
    replace h := h.2 hb
    refine s_iconst (q := 1345) 940 rfl ?_
    exact s_zret 941 rfl rfl (by decide) h
set_option maxRecDepth 100000 in
theorem vL_law_1364 {l : Launch} {G : pG} {bg : Nat × Nat} {n : Nat} {K : Int → Nat × Nat} {F E : Int → Int → Int} {Q : Option pV → pM → Prop} (x0 x1 x2 x3 s0 s1 : Int) (h : ((s1 = s0 → PW l G 84 mL_law bg 1382 [(0, (2, x0)), (1, (2, x1)), (2, (2, x2)), (3, (0, x3))] [] (n, K, F, E) Q) ∧ (¬ (s1 = s0) → Q (some (0, 0)) (n, K, F, E)))) : PW l G 84 mL_law bg 1364 [(0, (2, x0)), (1, (2, x1)), (2, (2, x2)), (3, (0, x3))] [(0, s0), (0, s1)] (n, K, F, E) Q := by
  refine s_icmp_eq (q := 1367) (tgt := 1382) 956 rfl rfl (fun hb => ?_) (fun hb => ?_)
  · skip
    have b1 := hb
    replace h := h.1 hb
    refine PW.pick [0, 1, 2, 3] rfl ?_
    exact h
  · skip
    have b1 := hb
    replace h := h.2 hb
    refine s_iconst (q := 1368) 957 rfl ?_
    exact s_zret 958 rfl rfl (by decide) h
set_option maxRecDepth 100000 in
theorem vL_law_1377 {l : Launch} {G : pG} {bg : Nat × Nat} {n : Nat} {K : Int → Nat × Nat} {F E : Int → Int → Int} {Q : Option pV → pM → Prop} (x0 x1 x2 x3 s0 s1 : Int) (h : ((s1 = s0 → PW l G 84 mL_law bg 1382 [(0, (2, x0)), (1, (2, x1)), (2, (2, x2)), (3, (0, x3))] [] (n, K, F, E) Q) ∧ (¬ (s1 = s0) → Q (some (0, 0)) (n, K, F, E)))) : PW l G 84 mL_law bg 1377 [(0, (2, x0)), (1, (2, x1)), (2, (2, x2)), (3, (0, x3))] [(0, s0), (0, s1)] (n, K, F, E) Q := by
  refine s_icmp_eq (q := 1380) (tgt := 1382) 963 rfl rfl (fun hb => ?_) (fun hb => ?_)
  · skip
    have b1 := hb
    replace h := h.1 hb
    refine PW.pick [0, 1, 2, 3] rfl ?_
    exact h
  · skip
    have b1 := hb
    replace h := h.2 hb
    refine s_iconst (q := 1381) 964 rfl ?_
    exact s_zret 965 rfl rfl (by decide) h
