/-! THE REFERENCE READS by all rules -/
theorem tO_op {k : Int} (h : tO k ≠ 0) : (k = 42 ∧ tO k = 8) ∨ (k = 47 ∧ tO k = 9) ∨ (k = 37 ∧ tO k = 10) := by
  unfold tO at *
  (repeat' split at h) <;> omega
theorem sO_op {k : Int} (h : sO k ≠ 0) : (k = 43 ∧ sO k = 6) ∨ (k = 45 ∧ sO k = 7) := by
  unfold sO at *
  (repeat' split at h) <;> omega
theorem cO_op {k : Int} (h : cO k ≠ 0) : (k = 60 ∧ cO k = 11) ∨ (k = 62 ∧ cO k = 12) ∨ (k = 61 ∧ cO k = 13) := by
  unfold cO at *
  (repeat' split at h) <;> omega
theorem aO_op {k : Int} (h : aO k ≠ 0) : k = 284 := by
  unfold aO at h
  split at h <;> omega
theorem oO_op {k : Int} (h : oO k ≠ 0) : k = 283 := by
  unfold oO at h
  split at h <;> omega
theorem cmI_bin {x : It} {f : tPhi} (h : x.1 < 28) : cmI x f = pBin (x.1 - 14) x.2.2.2.1 f := by unfold cmI; rw [if_pos h]
theorem inn_lt {x : It} {S : List It} (h : x.1 < 31) : inn (x :: S) = inn S := by
  show (if x.1 < 31 then inn S else x.1) = inn S
  rw [if_pos h]
theorem pb_t {q : Int} (h : 22 ≤ q ∧ q ≤ 24) : pBinds q = 6 := by unfold pBinds; (repeat' split) <;> omega
theorem pb_s {q : Int} (h : 20 ≤ q ∧ q ≤ 21) : pBinds q = 5 := by unfold pBinds; (repeat' split) <;> omega
theorem pb_c {q : Int} (h : 25 ≤ q ∧ q ≤ 27) : pBinds q = 4 := by unfold pBinds; (repeat' split) <;> omega
theorem bI_and {k v : Int} (h : k = v) : bI (k = v) = 1 := bI_of h
section B
variable {lw : Bool} {tp : Int → Int} {len : Int} {T : Nat} {kd nm : Int → Int}
theorem typ_s {md : Int} {f : tPhi} (h : md ≤ 4) : typ (nwL lw) md f ↔ PhOk f (nwL lw) := by unfold typ; rw [if_pos h]
theorem typ_t {md : Int} {f : tPhi} (h : 5 ≤ md) : typ (nwL lw) md f ↔ Tst f := by unfold typ; rw [if_neg (by omega)]
theorem rs_L0 (hE : TkE tp len T kd nm) : LRules kd (RS lw tp len T kd nm) 0 1 2 tO pBin := by
  refine rs_L hE md_012 (fun o f g _ _ => (typ_s (by decide)).mpr PhOk.bin) fun l G bg n K F E Q test S I t p d c c0 m0 fl st hh cx si ho sc tf tl hL => ?_
  have a6 := st.2.2.1
  have a7 := st.2.2.2.1
  have k66 : (K 66).1 = 12 := by rw [st.1.1.k66]
  have sgn : ∀ s, s < 256 → ((F 66 16 = 3 ∧ F 66 17 = s) ↔ kd t = s) := fun s s1 => at_sign hE a6 a7.1 a7.2 s1
  show LoopR l G bg n K test Q 3 F E
  have go : ∀ q, 22 ≤ q ∧ q ≤ 24 → tO (kd t) + 14 = q → ∀ (bg' : Nat × Nat) (Qq : Option pV → pM → Prop), (∀ v F' E', (v = 1 ∧ LoopR l G bg n K test Q 1 F' E') → Qq (some (0, v)) (n, K, F', E')) → PC l G 1 mX12_settle (0, 0) [(2, 66), (0, pBinds q)] (n, K, F, E) (fun r μ => PW l G 3 mX12_behindSum bg' 85 [(0, (2, 66)), (2, (0, q))] (r.toList ++ []) μ Qq) := by
    intro q hq eq bg' Qq hQq
    refine r_sgn (by omega) (pb_t hq) hE st hh si tl ((typ_s (by decide)).mp tf) fun F1 E1 c1 x w ag st1 io xe xq xf => hQq 1 F1 E1 ⟨rfl, ?_⟩
    refine hL F1 E1 c1 x 1 w ag st1 (fun g hg => io g ((typ_s (by decide)).mp hg)) xe (fun g => ?_) (by rw [xq, pb_t hq]; decide) (by rw [xq, pb_t hq]; decide) (inn_lt (by omega)) ((st_part (by decide)).mpr (Or.inl rfl))
    rw [cmI_bin (by omega), xf, xq, show q - 14 = tO (kd t) by omega]
  refine turn_sum (Pp := fun v F' E' => v = 1 ∧ LoopR l G bg n K test Q 1 F' E') st (fun bg' Qq hQq => ?_) (fun v F' E' q => by rw [q.1]; exact q.2)
  have nz : ∀ v, tO v ≠ 0 → v ≠ 43 ∧ v ≠ 45 := fun v hv => by rcases tO_op hv with z | z | z <;> omega
  have n1 := nz _ ho
  refine vX12_behindSum_0 66 test ⟨k66, fun _ => ⟨fun _ => ⟨fun z1 => ⟨fun z2 => ⟨fun z3 => ?_, fun y => go 24 (by decide) ?_ bg' Qq hQq⟩, fun y => go 23 (by decide) ?_ bg' Qq hQq⟩, fun y => go 22 (by decide) ?_ bg' Qq hQq⟩, fun y => absurd ((sgn 45 (by decide)).mp y) n1.2⟩, fun y => absurd ((sgn 43 (by decide)).mp y) n1.1⟩
  · exfalso
    rcases tO_op ho with z | z | z
    · exact z1 ((sgn 42 (by decide)).mpr z.1)
    · exact z2 ((sgn 47 (by decide)).mpr z.1)
    · exact z3 ((sgn 37 (by decide)).mpr z.1)
  · rw [(sgn 37 (by decide)).mp y]; decide
  · rw [(sgn 47 (by decide)).mp y]; decide
  · rw [(sgn 42 (by decide)).mp y]; decide
theorem rs_L1 (hE : TkE tp len T kd nm) : LRules kd (RS lw tp len T kd nm) 1 3 4 sO pBin := by
  refine rs_L hE md_134 (fun o f g _ _ => (typ_s (by decide)).mpr PhOk.bin) fun l G bg n K F E Q test S I t p d c c0 m0 fl st hh cx si ho sc tf tl hL => ?_
  have a6 := st.2.2.1
  have a7 := st.2.2.2.1
  have k66 : (K 66).1 = 12 := by rw [st.1.1.k66]
  have sgn : ∀ s, s < 256 → ((F 66 16 = 3 ∧ F 66 17 = s) ↔ kd t = s) := fun s s1 => at_sign hE a6 a7.1 a7.2 s1
  show LoopR l G bg n K test Q 3 F E
  have go : ∀ q, 20 ≤ q ∧ q ≤ 21 → sO (kd t) + 14 = q → ∀ (bg' : Nat × Nat) (Qq : Option pV → pM → Prop), (∀ v F' E', (v = 1 ∧ LoopR l G bg n K test Q 1 F' E') → Qq (some (0, v)) (n, K, F', E')) → PC l G 1 mX12_settle (0, 0) [(2, 66), (0, pBinds q)] (n, K, F, E) (fun r μ => PW l G 3 mX12_behindSum bg' 85 [(0, (2, 66)), (2, (0, q))] (r.toList ++ []) μ Qq) := by
    intro q hq eq bg' Qq hQq
    refine r_sgn (by omega) (pb_s hq) hE st hh si tl ((typ_s (by decide)).mp tf) fun F1 E1 c1 x w ag st1 io xe xq xf => hQq 1 F1 E1 ⟨rfl, ?_⟩
    refine hL F1 E1 c1 x 1 w ag st1 (fun g hg => io g ((typ_s (by decide)).mp hg)) xe (fun g => ?_) (by rw [xq, pb_s hq]; decide) (by rw [xq, pb_s hq]; decide) (inn_lt (by omega)) ((st_part (by decide)).mpr (Or.inl rfl))
    rw [cmI_bin (by omega), xf, xq, show q - 14 = sO (kd t) by omega]
  refine turn_sum (Pp := fun v F' E' => v = 1 ∧ LoopR l G bg n K test Q 1 F' E') st (fun bg' Qq hQq => ?_) (fun v F' E' q => by rw [q.1]; exact q.2)
  have sc4 : tO (kd t) = 0 := sc.1 rfl
  have nz : kd t ≠ 42 ∧ kd t ≠ 47 ∧ kd t ≠ 37 := ⟨fun z => by rw [z] at sc4; exact absurd sc4 (by decide), fun z => by rw [z] at sc4; exact absurd sc4 (by decide), fun z => by rw [z] at sc4; exact absurd sc4 (by decide)⟩
  refine vX12_behindSum_0 66 test ⟨k66, fun z1 => ⟨fun z2 => ?_, fun y => go 21 (by decide) ?_ bg' Qq hQq⟩, fun y => go 20 (by decide) ?_ bg' Qq hQq⟩
  · exfalso
    rcases sO_op ho with z | z
    · exact z1 ((sgn 43 (by decide)).mpr z.1)
    · exact z2 ((sgn 45 (by decide)).mpr z.1)
  · rw [(sgn 45 (by decide)).mp y]; decide
  · rw [(sgn 43 (by decide)).mp y]; decide
theorem rs_L6 (hE : TkE tp len T kd nm) : LRules kd (RS lw tp len T kd nm) 6 7 8 aO (fun _ => pAnd) := by
  refine rs_L hE md_678 (fun o f g _ hg => (typ_t (by decide)).mpr (Tst.and ((typ_t (by decide)).mp hg))) fun l G bg n K F E Q test S I t p d c c0 m0 fl st hh cx si ho sc tf tl hL => ?_
  have a6 := st.2.2.1
  have a7 := st.2.2.2.1
  have k66 : (K 66).1 = 12 := by rw [st.1.1.k66]
  have w1 := at_word (v := 1476) 25 (by decide) rfl hE a6 a7.1 a7.2
  have ka := aO_op ho
  show LoopR l G bg n K test Q 2 F E
  refine turn_test (Pp := fun v F' E' => v = 0 ∧ LoopR l G bg n K test Q 0 F' E') st (fun bg' Qq hQq => ?_) (fun v F' E' q => by rw [q.1]; exact q.2)
  have is : F 66 16 = 1 ∧ F 66 17 = 1476 := w1.mpr ka
  refine vX12_behindTest_0 66 ⟨k66, fun _ => ⟨fun y => absurd is y, fun _ => ?_⟩, fun y => absurd is y⟩
  rw [bI_of is]
  refine r_settleS (by decide) hE st si hh fun F1 E1 c' v1 ag1 st1 sg1 cc1 ce => ?_
  refine r_leapOp (Or.inl ⟨rfl, rfl⟩) hE st1 tl sg1 cc1 fun F2 E2 x v2 ag2 st2 io xe xo xf => hQq 0 F2 E2 ⟨rfl, ?_⟩
  refine hL F2 E2 (c' + 1) x 0 (v1.trans v2) (fun j hj => ⟨(ag2 j (by omega)).1.trans (ag1 j hj).1, (ag2 j (by omega)).2.trans (ag1 j hj).2⟩) st2 (fun g hg => io g ((typ_t (by decide)).mp hg)) ⟨xe.1, xe.2, by omega⟩ (fun g => ?_) (by rw [xo]; decide) (by rw [xo]; decide) (inn_lt (by omega)) ((st_plain (by decide)).mpr rfl)
  unfold cmI
  rw [if_neg (by omega), if_neg (by omega), if_pos xo, xf]
theorem rs_L7 (hE : TkE tp len T kd nm) : LRules kd (RS lw tp len T kd nm) 7 9 10 oO (fun _ => pOr) := by
  refine rs_L hE md_790 (fun o f g _ hg => (typ_t (by decide)).mpr (Tst.or ((typ_t (by decide)).mp hg))) fun l G bg n K F E Q test S I t p d c c0 m0 fl st hh cx si ho sc tf tl hL => ?_
  have a6 := st.2.2.1
  have a7 := st.2.2.2.1
  have k66 : (K 66).1 = 12 := by rw [st.1.1.k66]
  have w1 := at_word (v := 1476) 25 (by decide) rfl hE a6 a7.1 a7.2
  have w2 := at_word (v := 498) 24 (by decide) rfl hE a6 a7.1 a7.2
  have ka := oO_op ho
  show LoopR l G bg n K test Q 2 F E
  refine turn_test (Pp := fun v F' E' => v = 0 ∧ LoopR l G bg n K test Q 0 F' E') st (fun bg' Qq hQq => ?_) (fun v F' E' q => by rw [q.1]; exact q.2)
  have is : F 66 16 = 1 ∧ F 66 17 = 498 := w2.mpr ka
  have no : ¬ (F 66 16 = 1 ∧ F 66 17 = 1476) := fun y => by have := w1.mp y; omega
  refine vX12_behindTest_0 66 ⟨k66, fun y => absurd y no, fun _ => ⟨fun y => absurd is y, fun _ => ⟨fun _ => ?_, fun y => absurd y no⟩⟩⟩
  rw [bI_no no]
  refine r_settleS (by decide) hE st si hh fun F1 E1 c' v1 ag1 st1 sg1 cc1 ce => ?_
  refine r_leapOp (Or.inr ⟨rfl, rfl⟩) hE st1 tl sg1 cc1 fun F2 E2 x v2 ag2 st2 io xe xo xf => hQq 0 F2 E2 ⟨rfl, ?_⟩
  refine hL F2 E2 (c' + 1) x 0 (v1.trans v2) (fun j hj => ⟨(ag2 j (by omega)).1.trans (ag1 j hj).1, (ag2 j (by omega)).2.trans (ag1 j hj).2⟩) st2 (fun g hg => io g ((typ_t (by decide)).mp hg)) ⟨xe.1, xe.2, by omega⟩ (fun g => ?_) (by rw [xo]; decide) (by rw [xo]; decide) (inn_lt (by omega)) ((st_plain (by decide)).mpr rfl)
  unfold cmI
  rw [if_neg (by omega), if_neg (by omega), if_neg (by omega), xf]
theorem rs_B0 (hE : TkE tp len T kd nm) : BRules kd (RS lw tp len T kd nm) 0 3 91 93 := by
  refine rs_B (br := 32) hE (Or.inl ⟨rfl, rfl, rfl, rfl, rfl⟩) (fun l G bg n K F E Q test s S t p d c st hk ss tl hF hT => ?_) (fun l G bg n K F E Q test S I x t p d c c0 m f st d0 xb si en hF hT => ?_)
  · have sgn := at_sign (s := 91) hE st.2.2.1 st.2.2.2.1.1 st.2.2.2.1.2 (by decide)
    have k66 : (K 66).1 = 12 := by rw [st.1.1.k66]
    refine turn_part (Pp := fun v F' E' => LoopR l G bg n K test Q v F' E') hE st ((st_part (by decide)).mp ss) (fun bg' Qq hq => vX12_readPart_0 66 ⟨k66, fun y => absurd (sgn.mpr hk) y, fun _ => ?_⟩) (fun v F' E' q => q)
    exact r_open (Or.inr rfl) hE st tl (fun z F' E' fl => vX12_readPart_15 (hq 1 F' E' (hF z F' E' 1 fl))) (fun z F' E' x w e st1 xb => vX12_readPart_15 (hq 1 F' E' (hT z F' E' x 1 w e st1 xb ((st_part (by decide)).mpr (Or.inl rfl)))))
  · have a6 := st.2.2.1
    have a7 := st.2.2.2.1
    have a1 := st.1.1
    have k66 : (K 66).1 = 12 := by rw [st.1.1.k66]
    have sgn := at_sign (s := 93) hE a6 a7.1 a7.2 (by decide)
    have ib : inn (I ++ x :: S) = 32 := by
      obtain ⟨_, _, _, sb, _⟩ := si
      rw [inn_app (by decide) I sb]
      show (if x.1 < 31 then inn S else x.1) = 32
      rw [if_neg (by omega), xb]
    show LoopR l G bg n K test Q 3 F E
    refine turn_sum (Pp := fun v F' E' => LoopR l G bg n K test Q v F' E') st (fun bg' Qq hq => r_behindSum hE st (en.1 (by decide)) (en.2.1 (by decide)) ?_) (fun v F' E' q => q)
    rw [ib]
    refine vX12_behindSum_101 66 test 32 ⟨fun y => absurd rfl y, fun _ => ⟨k66, ?_⟩⟩
    by_cases k : kd t = 93
    · have tl := hE.lt a7.2 (by omega)
      rw [bI_of (sgn.mpr k)]
      refine r_mustT (by decide) a1 st.1.2.1 hE st.2.1.2 st.2.1.1 st.2.2.2.2.1.1 a6 a7.1 tl fun F1 w1 at1 => vX12_behindSum_118 66 ?_
      have g : ∀ k, (k < 14 ∨ 17 < k) → F1 66 k = F 66 k := fun k hk => w1.2 66 k (by omega)
      obtain ⟨_, _, _, _, ⟨a8, _⟩, ⟨b1, b2, b3, b4⟩, b5, b6, b7⟩ := id st
      have st1 : RSt lw tp len T K F1 E (t + 1) p (d + 1) c (I ++ x :: S) := st.mk' w1.r at1 (by omega) (by rw [g 19 (by omega)]; exact a8) ⟨by rw [g 23 (by omega)]; exact b1, by rw [g 26 (by omega)]; exact b2, by rw [g 30 (by omega)]; exact b3, by rw [g 29 (by omega)]; exact b4⟩ b5 b6 (by omega)
      refine ⟨k66, fun y => absurd (by rw [g 19 (by omega)]; exact a8) y, fun _ => ?_⟩
      refine r_settleS (by decide) hE st1 (si.mono (by decide)) (by show pBinds x.1 < 5; rw [pBinds_ge (by omega)]; decide) fun F2 E2 c' v2 ag2 st2 sg2 cc2 ce => vX12_behindSum_130 66 ?_
      have c29 := st2.2.2.2.2.2.1.2.2.2
      have c30 := st2.2.2.2.2.2.1.2.2.1
      have lb := st2.2.2.2.2.2.2.2.2
      have hl := hE.1
      have hTT := hE.2.2.1.2
      simp only [c29, c30]
      refine ⟨k66, by omega, fun F3 f3 => ⟨by omega, fun F4 f4 => ?_⟩⟩
      obtain ⟨st4, w4⟩ := close_ok st2 d0 (by omega) f3 f4
      exact hq 3 F4 E2 (hT k F4 E2 c' ((w1.r.trans v2).trans w4) ag2 st4 sg2 ⟨cc2.1, cc2.2.2, cc2.2.1⟩)
    · rw [bI_no (fun y => k (sgn.mp y))]
      refine r_mustF a1 st.2.2.2.2.1.1 (vX12_behindSum_118 66 ⟨k66, fun _ => hq 3 _ _ (hF k _ _ 3 (st.fail hE)), fun y => ?_⟩)
      rw [pUp_k (by decide), pUp_s] at y
      exact absurd y (by decide)
theorem rs_B6 (hE : TkE tp len T kd nm) : BRules kd (RS lw tp len T kd nm) 6 9 40 41 := by
  refine rs_B (br := 31) hE (Or.inr ⟨rfl, rfl, rfl, rfl, rfl⟩) (fun l G bg n K F E Q test s S t p d c st hk ss tl hF hT => ?_) (fun l G bg n K F E Q test S I x t p d c c0 m f st d0 xb si en hF hT => ?_)
  · have sgn := at_sign (s := 40) hE st.2.2.1 st.2.2.2.1.1 st.2.2.2.1.2 (by decide)
    have wrd := at_word (v := 14836) 26 (by decide) rfl hE st.2.2.1 st.2.2.2.1.1 st.2.2.2.1.2
    have k66 : (K 66).1 = 12 := by rw [st.1.1.k66]
    have s0 := (st_plain (by decide)).mp ss
    subst s0
    refine turn_plain (Pp := fun v F' E' => LoopR l G bg n K test Q v F' E') st (fun bg' Qq hq => vX12_readPlain_0 66 ⟨k66, fun _ => ⟨fun y => absurd (sgn.mpr hk) y, fun _ => ?_⟩, fun y => absurd (wrd.mp y) (by omega)⟩) (fun v F' E' q => q)
    exact r_open (Or.inl rfl) hE st tl (fun z F' E' fl => vX12_readPlain_38 (hq 0 F' E' (hF z F' E' 0 fl))) (fun z F' E' x w e st1 xb => vX12_readPlain_38 (hq 0 F' E' (hT z F' E' x 0 w e st1 xb ((st_plain (by decide)).mpr rfl))))
  · have a6 := st.2.2.1
    have a7 := st.2.2.2.1
    have a1 := st.1.1
    have k66 : (K 66).1 = 12 := by rw [st.1.1.k66]
    have sgn := at_sign (s := 41) hE a6 a7.1 a7.2 (by decide)
    have ib : inn (I ++ x :: S) = 31 := by
      obtain ⟨_, _, _, sb, _⟩ := si
      rw [inn_app (by decide) I sb]
      show (if x.1 < 31 then inn S else x.1) = 31
      rw [if_neg (by omega), xb]
    show LoopR l G bg n K test Q 2 F E
    refine turn_test (Pp := fun v F' E' => LoopR l G bg n K test Q v F' E') st (fun bg' Qq hq => r_behindTest hE st (en.2.2.1 (by decide)) (en.2.2.2 (by decide)) ?_) (fun v F' E' q => q)
    rw [ib]
    refine vX12_behindTest_80 66 31 ⟨fun _ => ⟨k66, ?_⟩, fun y => absurd y (by decide)⟩
    by_cases k : kd t = 41
    · have tl := hE.lt a7.2 (by omega)
      rw [bI_of (sgn.mpr k)]
      refine r_mustT (by decide) a1 st.1.2.1 hE st.2.1.2 st.2.1.1 st.2.2.2.2.1.1 a6 a7.1 tl fun F1 w1 at1 => vX12_behindTest_96 66 ?_
      have g : ∀ k, (k < 14 ∨ 17 < k) → F1 66 k = F 66 k := fun k hk => w1.2 66 k (by omega)
      obtain ⟨_, _, _, _, ⟨a8, _⟩, ⟨b1, b2, b3, b4⟩, b5, b6, b7⟩ := id st
      have st1 : RSt lw tp len T K F1 E (t + 1) p (d + 1) c (I ++ x :: S) := st.mk' w1.r at1 (by omega) (by rw [g 19 (by omega)]; exact a8) ⟨by rw [g 23 (by omega)]; exact b1, by rw [g 26 (by omega)]; exact b2, by rw [g 30 (by omega)]; exact b3, by rw [g 29 (by omega)]; exact b4⟩ b5 b6 (by omega)
      refine ⟨k66, fun y => absurd (by rw [g 19 (by omega)]; exact a8) y, fun _ => ?_⟩
      refine r_settleS (by decide) hE st1 (si.mono (by decide)) (by show pBinds x.1 < 1; rw [pBinds_ge (by omega)]; decide) fun F2 E2 c' v2 ag2 st2 sg2 cc2 ce => vX12_behindTest_108 66 ?_
      have c29 := st2.2.2.2.2.2.1.2.2.2
      have c30 := st2.2.2.2.2.2.1.2.2.1
      have lb := st2.2.2.2.2.2.2.2.2
      have hl := hE.1
      have hTT := hE.2.2.1.2
      simp only [c29, c30]
      refine ⟨k66, by omega, fun F3 f3 => ⟨by omega, fun F4 f4 => ?_⟩⟩
      obtain ⟨st4, w4⟩ := close_ok st2 d0 (by omega) f3 f4
      exact hq 2 F4 E2 (hT k F4 E2 c' ((w1.r.trans v2).trans w4) ag2 st4 sg2 ⟨cc2.1, cc2.2.2, cc2.2.1⟩)
    · rw [bI_no (fun y => k (sgn.mp y))]
      refine r_mustF a1 st.2.2.2.2.1.1 (vX12_behindTest_96 66 ⟨k66, fun _ => hq 2 _ _ (hF k _ _ 2 (st.fail hE)), fun y => ?_⟩)
      rw [pUp_k (by decide), pUp_s] at y
      exact absurd y (by decide)
end B
