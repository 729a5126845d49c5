/-! THE REFERENCE READS: one turn of its loop -/
section B
variable {l : Launch} {G : pG} {bg : Nat × Nat} {n : Nat} {K : Int → Nat × Nat} {F E : Int → Int → Int} {Q : Option pV → pM → Prop} {lw : Bool} {tp : Int → Int} {len : Int} {T : Nat} {kd nm : Int → Int} {t p d c test : Int} {L S I : List It} {Pp : Int → (Int → Int → Int) → (Int → Int → Int) → Prop}
theorem turn_part {s : Int} (hE : TkE tp len T kd nm) (h : RSt lw tp len T K F E t p d c L) (hs : s = 1 ∨ (s = 0 ∧ kd t ≠ 285 ∧ kd t ≠ 40)) (hp : ∀ (bg' : Nat × Nat) (Qq : Option pV → pM → Prop), (∀ v F' E', Pp v F' E' → Qq (some (0, v)) (n, K, F', E')) → PC l G 4 mX12_readPart bg' [(2, 66)] (n, K, F, E) Qq) (hl : ∀ v F' E', Pp v F' E' → LoopR l G bg n K test Q v F' E') : LoopR l G bg n K test Q s F E := by
  have k66 : (K 66).1 = 12 := by rw [h.1.1.k66]
  have h19 := h.2.2.2.2.1.1
  rcases hs with e | ⟨e, z1, z2⟩ <;> subst e
  · exact vX12_readExpression_20 66 test 1 ⟨k66, fun z => absurd h19 z, fun _ => ⟨fun z => absurd z (by decide), fun _ => ⟨fun _ => ⟨fun z => absurd rfl z, fun _ => hp (0, 0) _ fun v F' E' q => vX12_readExpression_52 66 test v (hl v F' E' q)⟩, fun z => absurd z (by decide)⟩⟩⟩
  · have w1 := at_word (v := 14836) 26 (by decide) rfl hE h.2.2.1 h.2.2.2.1.1 h.2.2.2.1.2
    have w2 := at_sign (s := 40) hE h.2.2.1 h.2.2.2.1.1 h.2.2.2.1.2 (by decide)
    exact vX12_readExpression_20 66 test 0 ⟨k66, fun z => absurd h19 z, fun _ => ⟨fun z => absurd z (by decide), fun _ => ⟨fun z => absurd rfl z, fun _ => vX12_readPlain_0 66 ⟨k66, fun _ => ⟨fun _ => hp (0, 0) _ fun v F' E' q => vX12_readPlain_44 v (vX12_readExpression_40 66 test v (hl v F' E' q)), fun y => absurd (w2.mp y) z2⟩, fun y => absurd (w1.mp y) z1⟩⟩⟩⟩
theorem turn_plain (h : RSt lw tp len T K F E t p d c L) (hp : ∀ (bg' : Nat × Nat) (Qq : Option pV → pM → Prop), (∀ v F' E', Pp v F' E' → Qq (some (0, v)) (n, K, F', E')) → PC l G 5 mX12_readPlain bg' [(2, 66)] (n, K, F, E) Qq) (hl : ∀ v F' E', Pp v F' E' → LoopR l G bg n K test Q v F' E') : LoopR l G bg n K test Q 0 F E := by
  have k66 : (K 66).1 = 12 := by rw [h.1.1.k66]
  have h19 := h.2.2.2.2.1.1
  exact vX12_readExpression_20 66 test 0 ⟨k66, fun z => absurd h19 z, fun _ => ⟨fun z => absurd z (by decide), fun _ => ⟨fun z => absurd rfl z, fun _ => hp (0, 0) _ fun v F' E' q => vX12_readExpression_40 66 test v (hl v F' E' q)⟩⟩⟩
theorem turn_sum (h : RSt lw tp len T K F E t p d c L) (hp : ∀ (bg' : Nat × Nat) (Qq : Option pV → pM → Prop), (∀ v F' E', Pp v F' E' → Qq (some (0, v)) (n, K, F', E')) → PC l G 3 mX12_behindSum bg' [(2, 66), (0, test)] (n, K, F, E) Qq) (hl : ∀ v F' E', Pp v F' E' → LoopR l G bg n K test Q v F' E') : LoopR l G bg n K test Q 3 F E := by
  have k66 : (K 66).1 = 12 := by rw [h.1.1.k66]
  have h19 := h.2.2.2.2.1.1
  exact vX12_readExpression_20 66 test 3 ⟨k66, fun z => absurd h19 z, fun _ => ⟨fun z => absurd z (by decide), fun _ => ⟨fun _ => ⟨fun _ => ⟨fun z => absurd rfl z, fun _ => hp (0, 0) _ fun v F' E' q => vX12_readExpression_65 66 test v (hl v F' E' q)⟩, fun z => absurd z (by decide)⟩, fun z => absurd z (by decide)⟩⟩⟩
theorem turn_test (h : RSt lw tp len T K F E t p d c L) (hp : ∀ (bg' : Nat × Nat) (Qq : Option pV → pM → Prop), (∀ v F' E', Pp v F' E' → Qq (some (0, v)) (n, K, F', E')) → PC l G 3 mX12_behindTest bg' [(2, 66)] (n, K, F, E) Qq) (hl : ∀ v F' E', Pp v F' E' → LoopR l G bg n K test Q v F' E') : LoopR l G bg n K test Q 2 F E := by
  have k66 : (K 66).1 = 12 := by rw [h.1.1.k66]
  have h19 := h.2.2.2.2.1.1
  exact vX12_readExpression_20 66 test 2 ⟨k66, fun z => absurd h19 z, fun _ => ⟨fun z => absurd z (by decide), fun _ => ⟨fun _ => ⟨fun _ => ⟨fun _ => hp (0, 0) _ fun v F' E' q => vX12_readExpression_72 66 test v (hl v F' E' q), fun z => absurd z (by decide)⟩, fun z => absurd z (by decide)⟩, fun z => absurd z (by decide)⟩⟩⟩
theorem inn_app {k : Int} (hk : 1 ≤ k) (I : List It) : AllB k I → inn (I ++ S) = inn S := by
  induction I with
  | nil => intro _; rfl
  | cons x I ih =>
    intro h
    have x31 : x.1 < 31 := by
      by_cases z : 31 ≤ x.1
      · have := h.1
        rw [pBinds_ge z] at this
        omega
      · omega
    show (if x.1 < 31 then inn (I ++ S) else x.1) = inn S
    rw [if_pos x31]
    exact ih h.2
theorem pb_5 {o : Int} (h : 20 ≤ o) (z : 5 ≤ pBinds o) : o ≤ 24 := by
  by_cases y : o ≤ 24
  · exact y
  · unfold pBinds at z; (repeat' split at z) <;> omega
theorem cmpd_app (I : List It) : AllB 5 I → PileM E (I ++ S) → (cmpd (I ++ S) ↔ cmpd S) := by
  induction I with
  | nil => intro _ _; exact Iff.rfl
  | cons x I ih =>
    intro h hp
    have q := pb_5 hp.2.1.1.1 h.1
    have z := ih h.2 hp.2.2
    refine ⟨fun w => ?_, fun w => Or.inr ⟨⟨hp.2.1.1.1, q⟩, z.mpr w⟩⟩
    rcases w with w | w
    · omega
    · exact z.mp w.2
theorem cmpd_no (hh : HdLt 4 S) : ¬ cmpd S := by
  cases S with
  | nil => exact id
  | cons x S =>
    have z : pBinds x.1 < 4 := hh
    rintro (w | w)
    · unfold pBinds at z; (repeat' split at z) <;> omega
    · unfold pBinds at z; (repeat' split at z) <;> omega
/-- settling, with what stands on the pile -/
theorem r_settleS {k c0 m : Int} {f : tPhi} (hk : 1 ≤ k) (hE : TkE tp len T kd nm) (h : RSt lw tp len T K F E t p d c (I ++ S)) (si : StI (oL lw) (nwL lw) (E 77) (E 78) k I c0 c f m) (hh : HdLt k S)
    (hQ : ∀ F' E' c', FrQ F E F' E' → (∀ j, j < c0 → E' 77 j = E 77 j ∧ E' 78 j = E 78 j) → RSt lw tp len T K F' E' t p d c' S → SegR (oL lw) (E' 77) (E' 78) c0 c' f m (nwL lw) → (c0 < c' ∧ 0 ≤ c0 ∧ 1 ≤ m) → c' + em S = c + em (I ++ S) → Q none (n, K, F', E')) : PC l G 1 mX12_settle bg [(2, 66), (0, k)] (n, K, F, E) Q := by
  have h' := h
  obtain ⟨⟨a1, a2, a3⟩, ⟨a4, a5⟩, a6, a7, ⟨a8, a9⟩, ⟨b1, b2, b3, b4⟩, b5, b6, b7⟩ := h'
  obtain ⟨c1, f1, m1, s1, s2, s3, s4, s5, s6, s7⟩ := si
  have hl := hE.1
  have hT := hE.2.2.1.2
  have pl := s2.le
  have ea := em_app I S
  have ei := em_pos I
  have ln : ((I ++ S).length : Int) = I.length + S.length := by rw [List.length_append]; omega
  have b0 : 0 ≤ bsI I c1 := by
    cases I with
    | nil => exact s4.2.2
    | cons x I =>
      have q : ∀ (J : List It) (cx : Int) (g : tPhi), 0 ≤ cx → Pend (oL lw) (nwL lw) (E 77) (E 78) J cx g → 0 ≤ bsI J cx := by
        intro J
        induction J with
        | nil => intro cx g hx _; exact hx
        | cons y J ih => intro cx g hx hp; exact ih y.2.2.1 _ hp.1.1 hp.2
      exact q (x :: I) c1 f1 s4.2.2 s2
  rw [← b1] at s3 s4
  refine r_settle hk a1 I S F E c1 m1 f1 a2 b6 b4 (by omega) (by omega) (by omega) s1 hh s2 s3 (by omega) fun F' E' w g29 g23 ag sg => ?_
  have kp : ∀ j, j ≠ 23 → j ≠ 29 → F' 66 j = F 66 j := fun j q1 q2 => w.2.2 66 j (by omega)
  have st : RSt lw tp len T K F' E' t p d (F' 66 23) S := h.mk' w.r (by
    unfold AtT
    rw [kp 14 (by decide) (by decide), kp 15 (by decide) (by decide), kp 16 (by decide) (by decide), kp 17 (by decide) (by decide), kp 18 (by decide) (by decide)]
    exact a6) a7 (by rw [kp 19 (by decide) (by decide)]; exact a8) ⟨rfl, by rw [kp 26 (by decide) (by decide)]; exact b2, by rw [kp 30 (by decide) (by decide)]; exact b3, g29⟩ (by omega) (PileM.congr S (PileM.tail I S b6) fun j _ => by rw [w.1 79 (by decide) (by decide), w.1 80 (by decide) (by decide)]; exact ⟨rfl, rfl⟩) (by omega)
  rw [s5] at ag sg
  rw [s5] at b0 pl
  rw [s6, s7] at sg
  refine hQ F' E' (F' 66 23) w.r ag st sg ⟨by omega, b0, by omega⟩ (by omega)
/-- something is laid on the pile -/
theorem push_ok {q a cx m : Int} {f : tPhi} {F3 E1 E2 : Int → Int → Int} (h : RSt lw tp len T K F E t p d c S) (hq : 20 ≤ q ∧ q ≤ 32) (ha : 0 ≤ a ∧ a < 400) (e1 : E1 = pUp E 79 (S.length : Int) q) (e2 : E2 = pUp E1 80 (S.length : Int) a) (e3 : F3 = pUp F 66 29 ((S.length : Int) + 1)) : FrQ F E F3 E2 ∧ (E2 77 = E 77 ∧ E2 78 = E 78) ∧ PileM E2 ((q, a, cx, f, m) :: S) ∧ F3 66 29 = (((q, a, cx, f, m) :: S).length : Int) ∧ (∀ k, k ≠ 29 → F3 66 k = F 66 k) := by
  have hp := h.2.2.2.2.2.2.2.1
  refine ⟨?_, ⟨by rw [e2, pUp_an (by decide), e1, pUp_an (by decide)], by rw [e2, pUp_an (by decide), e1, pUp_an (by decide)]⟩, ⟨⟨?_, ?_⟩, ⟨hq, ha⟩, PileM.congr S hp fun j hj => ⟨?_, ?_⟩⟩, ?_, fun k hk => by rw [e3, pUp_k hk]⟩
  · rw [e2, e1, e3]
    exact (((FrQ.refl h.1.2.1).up (by omega)).row (by omega)).row (by omega)
  · show E2 79 (S.length : Int) = q
    rw [e2, pUp_a (by decide), e1, pUp_s]
  · show E2 80 (S.length : Int) = a
    rw [e2, pUp_s]
  · rw [e2, pUp_a (by decide), e1, pUp_k (by omega)]
  · rw [e2, pUp_k (by omega), e1, pUp_a (by decide)]
  · rw [e3, pUp_s]
    show (S.length : Int) + 1 = ((S.length + 1 : Nat) : Int)
    omega
theorem AtT.keep {F' : Int → Int → Int} (h : AtT tp len F t) (e : F' 66 14 = F 66 14 ∧ F' 66 15 = F 66 15 ∧ F' 66 16 = F 66 16 ∧ F' 66 17 = F 66 17 ∧ F' 66 18 = F 66 18) : AtT tp len F' t := by
  unfold AtT at *
  rw [e.1, e.2.1, e.2.2.1, e.2.2.2.1, e.2.2.2.2]
  exact h
/-- + - * / % -/
theorem r_sgn {q k c0 m0 : Int} {fl : tPhi} (hq : 20 ≤ q ∧ q ≤ 24) (hk : pBinds q = k) (hE : TkE tp len T kd nm) (h : RSt lw tp len T K F E t p d c (I ++ S)) (hh : HdLt k S) (si : StI (oL lw) (nwL lw) (E 77) (E 78) k I c0 c fl m0) (tl : t < T) (pf : PhOk fl (nwL lw))
    (hQ : ∀ F' E' c1 x, FrQ F E F' E' → (∀ j, j < c0 → E' 77 j = E 77 j ∧ E' 78 j = E 78 j) → RSt lw tp len T K F' E' (t + 1) p d c1 (x :: S) → (∀ g, PhOk g (nwL lw) → ItOk (oL lw) (nwL lw) (E' 77) (E' 78) x c1 g) → (x.2.2.1 = c0 ∧ x.2.2.2.2 = m0 ∧ c0 ≤ c1) → x.1 = q → x.2.2.2.1 = fl → Q (some (0, 1)) (n, K, F', E')) : PC l G 1 mX12_settle (0, 0) [(2, 66), (0, pBinds q)] (n, K, F, E) (fun r μ => PW l G 3 mX12_behindSum bg 85 [(0, (2, 66)), (2, (0, q))] (r.toList ++ []) μ Q) := by
  have k5 : 5 ≤ k := by rw [← hk]; unfold pBinds; (repeat' split) <;> omega
  rw [hk]
  refine r_settleS (by omega) hE h si hh fun F1 E1 c' w1 ag1 st1 sg1 cc1 ce => ?_
  have st1' := st1
  obtain ⟨⟨a1, a2, a3⟩, ⟨a4, a5⟩, a6, a7, ⟨a8, a9⟩, ⟨b1, b2, b3, b4⟩, b5, b6, b7⟩ := st1'
  have hl := hE.1
  have hT := hE.2.2.1.2
  have hb := h.2.2.2.2.2.2.2.2
  have ln : ((I ++ S).length : Int) = I.length + S.length := by rw [List.length_append]; omega
  refine vX12_behindSum_85 66 q ?_
  simp only [a2.f66_27, a2.f66_28, a1.k66, a1.k79, a1.k80, b4]
  refine ⟨trivial, by decide, trivial, by omega, fun E2 e2 => ⟨by decide, trivial, by omega, fun E3 e3 => ⟨by omega, fun F3 f3 => ?_⟩⟩⟩
  obtain ⟨p1, p2, p3, p4, p5⟩ := push_ok (cx := c0) (m := m0) (f := fl) st1 (a := 0) (by omega : 20 ≤ q ∧ q ≤ 32) (by decide) e2 e3 f3
  have at3 : AtT tp len F3 t := a6.keep ⟨p5 14 (by decide), p5 15 (by decide), p5 16 (by decide), p5 17 (by decide), p5 18 (by decide)⟩
  refine r_nextT a1 p1.2.1 hE (by rw [p1.e]; exact a5) (by rw [p5 13 (by decide)]; exact a4) at3 a7.1 tl fun F4 w4 at4 => vX12_behindSum_95 ?_
  have g : ∀ j, (j < 14 ∨ 17 < j) → F4 66 j = F3 66 j := fun j hj => w4.2 66 j (by omega)
  have ex : em ((q, 0, c0, fl, m0) :: S) = 1 + em S := by show (if q < 29 then 1 else 0) + em S = 1 + em S; rw [if_pos (by omega)]
  have lx : (((q, 0, c0, fl, m0) :: S).length : Int) = S.length + 1 := by show ((S.length + 1 : Nat) : Int) = S.length + 1; omega
  have wr := (p1.trans w4.r)
  refine hQ F4 E3 c' (q, 0, c0, fl, m0) (w1.trans wr) (fun j hj => by rw [p2.1, p2.2]; exact ag1 j hj) (st1.mk' wr at4 (by omega) ?_ ⟨?_, ?_, ?_, ?_⟩ b5 p3 (by omega)) (fun g' hg => ?_) ⟨rfl, rfl, Int.le_of_lt cc1.1⟩ rfl rfl
  · rw [g 19 (by omega), p5 19 (by decide)]; exact a8
  · rw [g 23 (by omega), p5 23 (by decide)]; exact b1
  · rw [g 26 (by omega), p5 26 (by decide)]; exact b2
  · rw [g 30 (by omega), p5 30 (by decide)]; exact b3
  · rw [g 29 (by omega)]; exact p4
  · rw [p2.1, p2.2]
    exact ⟨cc1.2.1, Or.inl ⟨by show 20 ≤ q ∧ q < 28; omega, Int.le_of_lt cc1.1, sg1, cc1.2.2, pf, hg⟩⟩
/-- where no sign of a sum stands -/
theorem r_behindSum {x : Int} (hE : TkE tp len T kd nm) (h : RSt lw tp len T K F E t p d c L) (z1 : tO (kd t) = 0) (z2 : sO (kd t) = 0) (hQ : PW l G 3 mX12_behindSum bg 101 [(0, (2, 66)), (1, (0, x))] [(0, inn L)] (n, K, F, E) Q) : PC l G 3 mX12_behindSum bg [(2, 66), (0, x)] (n, K, F, E) Q := by
  have h' := h
  obtain ⟨⟨a1, a2, a3⟩, ⟨a4, a5⟩, a6, a7, ⟨a8, a9⟩, ⟨b1, b2, b3, b4⟩, b5, b6, b7⟩ := h'
  have hl := hE.1
  have hT := hE.2.2.1.2
  have sgn : ∀ s, s < 256 → ((F 66 16 = 3 ∧ F 66 17 = s) ↔ kd t = s) := fun s s1 => at_sign hE a6 a7.1 a7.2 s1
  have k : kd t ≠ 42 ∧ kd t ≠ 47 ∧ kd t ≠ 37 ∧ kd t ≠ 43 ∧ kd t ≠ 45 := by
    unfold tO at z1
    unfold sO at z2
    (repeat' split at z1) <;> (repeat' split at z2) <;> omega
  refine vX12_behindSum_0 66 x ⟨by rw [a1.k66], fun _ => ⟨fun _ => ⟨fun _ => ⟨fun _ => ⟨fun _ => r_inner a1 a2 b6 b4 (by omega) hQ, fun y => absurd ((sgn 37 (by decide)).mp y) k.2.2.1⟩, fun y => absurd ((sgn 47 (by decide)).mp y) k.2.1⟩, fun y => absurd ((sgn 42 (by decide)).mp y) k.1⟩, fun y => absurd ((sgn 45 (by decide)).mp y) k.2.2.2.2⟩, fun y => absurd ((sgn 43 (by decide)).mp y) k.2.2.2.1⟩
/-- where neither and nor or stands -/
theorem r_behindTest (hE : TkE tp len T kd nm) (h : RSt lw tp len T K F E t p d c L) (z1 : aO (kd t) = 0) (z2 : oO (kd t) = 0) (hQ : PW l G 3 mX12_behindTest bg 80 [(0, (2, 66))] [(0, inn L)] (n, K, F, E) Q) : PC l G 3 mX12_behindTest bg [(2, 66)] (n, K, F, E) Q := by
  have h' := h
  obtain ⟨⟨a1, a2, a3⟩, ⟨a4, a5⟩, a6, a7, ⟨a8, a9⟩, ⟨b1, b2, b3, b4⟩, b5, b6, b7⟩ := h'
  have hl := hE.1
  have hT := hE.2.2.1.2
  have w1 := at_word (v := 1476) 25 (by decide) rfl hE a6 a7.1 a7.2
  have w2 := at_word (v := 498) 24 (by decide) rfl hE a6 a7.1 a7.2
  have k1 : kd t ≠ 284 := fun e => by rw [e] at z1; exact absurd z1 (by decide)
  have k2 : kd t ≠ 283 := fun e => by rw [e] at z2; exact absurd z2 (by decide)
  exact vX12_behindTest_0 66 ⟨by rw [a1.k66], fun y => absurd (w1.mp y) k1, fun _ => ⟨fun _ => r_inner a1 a2 b6 b4 (by omega) hQ, fun y => absurd (w2.mp y) k2⟩⟩
/-- and, or -/
theorem r_leapOp {o x1 c0 m0 : Int} {fl : tPhi} (ho : (o = 29 ∧ x1 = 1) ∨ (o = 30 ∧ x1 = 0)) (hE : TkE tp len T kd nm) (h : RSt lw tp len T K F E t p d c S) (tl : t < T) (sg1 : SegR (oL lw) (E 77) (E 78) c0 c fl m0 (nwL lw)) (cc1 : c0 < c ∧ 0 ≤ c0 ∧ 1 ≤ m0)
    (hQ : ∀ F' E' x, FrQ F E F' E' → (∀ j, j < c → E' 77 j = E 77 j ∧ E' 78 j = E 78 j) → RSt lw tp len T K F' E' (t + 1) p d (c + 1) (x :: S) → (∀ g, Tst g → ItOk (oL lw) (nwL lw) (E' 77) (E' 78) x (c + 1) g) → (x.2.2.1 = c0 ∧ x.2.2.2.2 = m0) → x.1 = o → x.2.2.2.1 = fl → Q (some (0, 0)) (n, K, F', E')) : PW l G 3 mX12_behindTest bg 35 [(0, (2, 66)), (1, (0, x1))] [] (n, K, F, E) Q := by
  have h' := h
  obtain ⟨⟨a1, a2, a3⟩, ⟨a4, a5⟩, a6, a7, ⟨a8, a9⟩, ⟨b1, b2, b3, b4⟩, b5, b6, b7⟩ := h'
  have hl := hE.1
  have hT := hE.2.2.1.2
  have ep := em_pos S
  -- push, emit, next
  have go : ∀ (E1 E2 E4 E5 F3 F6 : Int → Int → Int), E1 = pUp E 79 (S.length : Int) o → E2 = pUp E1 80 (S.length : Int) c → F3 = pUp F 66 29 ((S.length : Int) + 1) → E4 = pUp E2 77 c o → E5 = pUp E4 78 c 0 → F6 = pUp F3 66 23 (c + 1) → PC l G 1 mX12_next (0, 0) [(2, 66)] (n, K, F6, E5) (fun r μ => PW l G 3 mX12_behindTest bg 74 [] (r.toList ++ []) μ Q) := by
    intro E1 E2 E4 E5 F3 F6 e1 e2 f3 e4 e5 f6
    obtain ⟨p1, p2, p3, p4, p5⟩ := push_ok (cx := c0) (m := m0) (f := fl) h (q := o) (a := c) (by omega) (by omega) e1 e2 f3
    have w6 : FrQ F E F6 E5 := by rw [f6, e5, e4]; exact ((p1.up (by omega)).row (by omega)).row (by omega)
    have k6 : ∀ k, k ≠ 29 → k ≠ 23 → F6 66 k = F 66 k := fun k q1 q2 => by rw [f6, pUp_k q2]; exact p5 k q1
    have at6 : AtT tp len F6 t := a6.keep ⟨k6 14 (by decide) (by decide), k6 15 (by decide) (by decide), k6 16 (by decide) (by decide), k6 17 (by decide) (by decide), k6 18 (by decide) (by decide)⟩
    have r77 : E5 77 = rUp (E 77) c o := by rw [e5, pUp_an (by decide), e4, pUp_row, pRow1, if_pos rfl, p2.1]
    have r78 : E5 78 = rUp (E 78) c 0 := by rw [e5, pUp_row, pRow1, if_pos rfl, e4, pUp_an (by decide), p2.2]
    have ag : ∀ j, j < c → E5 77 j = E 77 j ∧ E5 78 j = E 78 j := fun j hj => by rw [r77, r78, rUp_n (by omega), rUp_n (by omega)]; exact ⟨rfl, rfl⟩
    refine r_nextT a1 w6.2.1 hE (by rw [w6.e]; exact a5) (by rw [k6 13 (by decide) (by decide)]; exact a4) at6 a7.1 tl fun F4 w4 at4 => vX12_behindTest_74 ?_
    have g : ∀ j, (j < 14 ∨ 17 < j) → F4 66 j = F6 66 j := fun j hj => w4.2 66 j (by omega)
    have ex : em ((o, c, c0, fl, m0) :: S) = em S := by show (if o < 29 then 1 else 0) + em S = em S; rw [if_neg (by omega)]; omega
    have lx : (((o, c, c0, fl, m0) :: S).length : Int) = S.length + 1 := by show ((S.length + 1 : Nat) : Int) = S.length + 1; omega
    have wr := (w6.trans w4.r)
    refine hQ F4 E5 (o, c, c0, fl, m0) wr ag (h.mk' wr at4 (by omega) ?_ ⟨?_, ?_, ?_, ?_⟩ (by omega) (PileM.congr _ p3 fun j _ => by rw [e5, pUp_an (by decide), pUp_an (by decide), e4, pUp_an (by decide), pUp_an (by decide)]; exact ⟨rfl, rfl⟩) (by omega)) (fun g' hg => ?_) ⟨rfl, rfl⟩ rfl rfl
    · rw [g 19 (by omega), k6 19 (by decide) (by decide)]; exact a8
    · rw [g 23 (by omega), f6, pUp_s]
    · rw [g 26 (by omega), k6 26 (by decide) (by decide)]; exact b2
    · rw [g 30 (by omega), k6 30 (by decide) (by decide)]; exact b3
    · rw [g 29 (by omega), f6, pUp_k (by decide)]; exact p4
    · exact ⟨cc1.2.1, Or.inr (Or.inr ⟨by show o = 29 ∨ o = 30; omega, Int.le_of_lt cc1.1, rfl, sg1.congr fun j j0 j1 => ag j j1, cc1.2.2, by show E5 77 c = o; rw [r77, rUp_s], hg⟩)⟩
  refine vX12_behindTest_35 66 x1 ?_
  simp only [a2.f66_27, a2.f66_28, a2.f66_24, a2.f66_25, a1.k66, a1.k79, a1.k80, a1.k77, a1.k78, b4, b1]
  refine ⟨fun z => ⟨trivial, by decide, trivial, by omega, fun E1 e1 => ⟨by decide, trivial, by omega, fun E2 e2 => ⟨by omega, fun F3 f3 => ⟨fun _ => ⟨by decide, trivial, by omega, fun E4 e4 => ⟨by decide, trivial, by omega, fun E5 e5 => ⟨by omega, fun F6 f6 => ?_⟩⟩⟩, fun y => absurd z y⟩⟩⟩⟩, fun z => ⟨trivial, by decide, trivial, by omega, fun E1 e1 => ⟨by decide, trivial, by omega, fun E2 e2 => ⟨by omega, fun F3 f3 => ⟨fun y => absurd y z, fun _ => ⟨by decide, trivial, by omega, fun E4 e4 => ⟨by decide, trivial, by omega, fun E5 e5 => ⟨by omega, fun F6 f6 => ?_⟩⟩⟩⟩⟩⟩⟩⟩
  · have o30 : o = 30 := by omega
    subst o30
    exact go E1 E2 E4 E5 F3 F6 e1 e2 f3 e4 e5 f6
  · have o29 : o = 29 := by omega
    subst o29
    exact go E1 E2 E4 E5 F3 F6 e1 e2 f3 e4 e5 f6
/-- a bracket is opened -/
theorem r_open {o : Int} (ho : o = 31 ∨ o = 32) (hE : TkE tp len T kd nm) (h : RSt lw tp len T K F E t p d c S) (tl : t < T) (hQ0 : 8 ≤ d → ∀ F' E', FlR tp len F E t F' E' → Q none (n, K, F', E')) (hQ1 : d < 8 → ∀ F' E' x, FrQ F E F' E' → (E' 77 = E 77 ∧ E' 78 = E 78) → RSt lw tp len T K F' E' (t + 1) p (d + 1) c (x :: S) → x.1 = o → Q none (n, K, F', E')) : PC l G 3 mX12_openBracket bg [(2, 66), (0, o)] (n, K, F, E) Q := by
  have h' := h
  obtain ⟨⟨a1, a2, a3⟩, ⟨a4, a5⟩, a6, a7, ⟨a8, a9⟩, ⟨b1, b2, b3, b4⟩, b5, b6, b7⟩ := h'
  have hl := hE.1
  have hT := hE.2.2.1.2
  have ep := em_pos S
  refine vX12_openBracket_0 66 o ?_
  rw [b3]
  refine ⟨by rw [a1.k66], fun z => r_mustF a1 a8 (vX12_openBracket_18 66 o ⟨by rw [a1.k66], fun _ => hQ0 z _ _ (h.fail hE), fun y => ?_⟩), fun z => r_mustT (by decide) a1 a2 hE a5 a4 a8 a6 a7.1 tl fun F1 w1 at1 => vX12_openBracket_18 66 o ?_⟩
  · rw [pUp_k (by decide), pUp_s] at y
    exact absurd y (by decide)
  · have hF1 := w1.1
    have g : ∀ k, (k < 14 ∨ 17 < k) → F1 66 k = F 66 k := fun k hk => w1.2 66 k (by omega)
    simp only [hF1.f66_27, hF1.f66_28, a1.k66, a1.k79, a1.k80, g 19 (by omega), g 29 (by omega), g 30 (by omega), b3, b4]
    refine ⟨trivial, fun y => absurd a8 y, fun _ => ⟨by omega, fun F2 f2 => ⟨by decide, trivial, by omega, fun E2 e2 => ⟨by decide, trivial, by omega, fun E3 e3 => ⟨by omega, fun F4 f4 => ?_⟩⟩⟩⟩⟩
    have ex : em ((o, 0, 0, pZ, 0) :: S) = em S := by show (if o < 29 then 1 else 0) + em S = em S; rw [if_neg (by omega)]; omega
    have lx : (((o, 0, 0, pZ, 0) :: S).length : Int) = S.length + 1 := by show ((S.length + 1 : Nat) : Int) = S.length + 1; omega
    have wr : FrQ F E F4 E3 := by rw [f4, f2, e3, e2]; exact (((w1.r.up (by omega)).up (by omega)).row (by omega)).row (by omega)
    have k4 : ∀ k, k ≠ 29 → k ≠ 30 → F4 66 k = F1 66 k := fun k q1 q2 => by rw [f4, pUp_k q1, f2, pUp_k q2]
    refine hQ1 (by omega) F4 E3 (o, 0, 0, pZ, 0) wr ⟨by rw [e3, pUp_an (by decide), e2, pUp_an (by decide)], by rw [e3, pUp_an (by decide), e2, pUp_an (by decide)]⟩ (h.mk' wr (at1.keep ⟨k4 14 (by decide) (by decide), k4 15 (by decide) (by decide), k4 16 (by decide) (by decide), k4 17 (by decide) (by decide), k4 18 (by decide) (by decide)⟩) (by omega) ?_ ⟨?_, ?_, ?_, ?_⟩ (by omega) ⟨⟨?_, ?_⟩, ⟨by show 20 ≤ o ∧ o ≤ 32; omega, by show (0 : Int) ≤ 0 ∧ (0 : Int) < 400; decide⟩, PileM.congr S b6 fun j hj => ⟨?_, ?_⟩⟩ (by omega)) rfl
    · rw [k4 19 (by decide) (by decide), g 19 (by omega)]; exact a8
    · rw [k4 23 (by decide) (by decide), g 23 (by omega)]; exact b1
    · rw [k4 26 (by decide) (by decide), g 26 (by omega)]; exact b2
    · rw [f4, pUp_k (by decide), f2, pUp_s]
    · rw [f4, pUp_s, lx]
    · show E3 79 (S.length : Int) = o
      rw [e3, pUp_a (by decide), e2, pUp_s]
    · show E3 80 (S.length : Int) = 0
      rw [e3, pUp_s]
    · rw [e3, pUp_a (by decide), e2, pUp_k (by omega)]
    · rw [e3, pUp_k (by omega), e2, pUp_a (by decide)]
/-- a bracket is taken from the pile -/
theorem close_ok {x : It} {F1 F2 : Int → Int → Int} (h : RSt lw tp len T K F E t p (d + 1) c (x :: S)) (d0 : 0 ≤ d) (xo : 29 ≤ x.1) (f1 : F1 = pUp F 66 29 (((x :: S).length : Int) - 1)) (f2 : F2 = pUp F1 66 30 (d + 1 - 1)) : RSt lw tp len T K F2 E t p d c S ∧ FrQ F E F2 E := by
  have h' := h
  obtain ⟨⟨a1, a2, a3⟩, ⟨a4, a5⟩, a6, a7, ⟨a8, a9⟩, ⟨b1, b2, b3, b4⟩, b5, b6, b7⟩ := h'
  have lx : ((x :: S).length : Int) = S.length + 1 := by show ((S.length + 1 : Nat) : Int) = S.length + 1; omega
  have ex : em (x :: S) = em S := by show (if x.1 < 29 then 1 else 0) + em S = em S; rw [if_neg (by omega)]; omega
  have wr : FrQ F E F2 E := by rw [f2, f1]; exact ((FrQ.refl a2).up (by omega)).up (by omega)
  have k4 : ∀ k, k ≠ 29 → k ≠ 30 → F2 66 k = F 66 k := fun k q1 q2 => by rw [f2, pUp_k q2, f1, pUp_k q1]
  refine ⟨h.mk' wr (a6.keep ⟨k4 14 (by decide) (by decide), k4 15 (by decide) (by decide), k4 16 (by decide) (by decide), k4 17 (by decide) (by decide), k4 18 (by decide) (by decide)⟩) a7 ?_ ⟨?_, ?_, ?_, ?_⟩ (by omega) b6.2.2 (by omega), wr⟩
  · rw [k4 19 (by decide) (by decide)]; exact a8
  · rw [k4 23 (by decide) (by decide)]; exact b1
  · rw [k4 26 (by decide) (by decide)]; exact b2
  · rw [f2, pUp_s]; omega
  · rw [f2, pUp_k (by decide), f1, pUp_s]; omega
end B
