/-! THE REFERENCE READS an expression -/
section B
variable {lw : Bool} {tp : Int → Int} {len : Int} {T : Nat} {kd nm : Int → Int}
theorem r_101 {l : Launch} {G : pG} {bg : Nat × Nat} {n : Nat} {K : Int → Nat × Nat} {F E : Int → Int → Int} {Q : Option pV → pM → Prop} {test i : Int} (hK : KS K) (h1 : i ≠ 32) (h2 : i = -1 → test ≠ 0) (h : PC l G 1 mX12_isCompared (0, 0) [(2, 66)] (n, K, F, E) (fun r μ => PW l G 3 mX12_behindSum bg 167 [(0, (2, 66))] (r.toList ++ []) μ Q)) : PW l G 3 mX12_behindSum bg 101 [(0, (2, 66)), (1, (0, test))] [(0, i)] (n, K, F, E) Q :=
  vX12_behindSum_101 66 test i ⟨fun _ => ⟨fun _ => ⟨by rw [hK.k66], h⟩, fun z => ⟨fun _ => ⟨by rw [hK.k66], h⟩, fun y => absurd y (h2 z)⟩⟩, fun z => absurd z h1⟩
/-- behind the first sum of a comparison -/
theorem r_cmp (hE : TkE tp len T kd nm) {l : Launch} {G : pG} {bg : Nat × Nat} {n : Nat} {K : Int → Nat × Nat} {F E : Int → Int → Int} {Q : Option pV → pM → Prop} {test : Int} {S I : List It} {t p d c c0 m0 : Int} {f : tPhi} (st : RSt lw tp len T K F E t p d c (I ++ S)) (si : StI (oL lw) (nwL lw) (E 77) (E 78) 5 I c0 c f m0) (en : enc 3 (kd t)) (hh : HdLt 4 S) (cx : cxt 5 S test)
    (hF : cO (kd t) = 0 → ∀ F' E' y, FlR tp len F E t F' E' → LoopR l G bg n K test Q y F' E')
    (hT : cO (kd t) ≠ 0 → ∀ F' E' c1 x, FrQ F E F' E' → (∀ j, j < c0 → E' 77 j = E 77 j ∧ E' 78 j = E 78 j) → RSt lw tp len T K F' E' (t + 1) p d c1 (x :: S) → (∀ g, PhOk f (nwL lw) → PhOk g (nwL lw) → ItOk (oL lw) (nwL lw) (E' 77) (E' 78) x c1 g) → (x.2.2.1 = c0 ∧ x.2.2.2.2 = m0 ∧ c0 ≤ c1) → x.1 = cO (kd t) + 14 → x.2.2.2.1 = f → LoopR l G bg n K test Q 1 F' E') : LoopR l G bg n K test Q 3 F E := by
  have a1 := st.1.1
  have a6 := st.2.2.1
  have a7 := st.2.2.2.1
  have k66 : (K 66).1 = 12 := by rw [a1.k66]
  have hl := hE.1
  have hTT := hE.2.2.1.2
  obtain ⟨_, _, _, _, ⟨a8, _⟩, ⟨b1, b2, b3, b4⟩, b5, b6, b7⟩ := id st
  have sb : AllB 5 I := by obtain ⟨_, _, _, sb, _⟩ := si; exact sb
  have sgn : ∀ s, s < 256 → ((F 66 16 = 3 ∧ F 66 17 = s) ↔ kd t = s) := fun s s1 => at_sign hE a6 a7.1 a7.2 s1
  have f19 : ¬ pUp (pUp F 66 19 1) 66 18 (F 66 14) 66 19 = 0 := by rw [pUp_k (by decide), pUp_s]; decide
  refine turn_sum (Pp := fun v F' E' => LoopR l G bg n K test Q v F' E') st (fun bg' Qq hq => r_behindSum hE st (en.1 (by decide)) (en.2.1 (by decide)) ?_) (fun v F' E' q => q)
  rw [inn_app (by decide) I sb]
  refine r_101 a1 (cx (by decide)).1 (cx (by decide)).2 (r_isCompared a1 st.1.2.1 b6 b4 (by omega) (fun y => absurd ((cmpd_app I sb b6).mp y) (cmpd_no hh)) fun _ => ?_)
  have go : ∀ q, 25 ≤ q ∧ q ≤ 27 → cO (kd t) + 14 = q → PC l G 2 mX12_must (0, 0) [(2, 66), (0, 1)] (n, K, F, E) (fun r μ => PW l G 3 mX12_behindSum bg' 227 [(0, (2, 66)), (2, (0, q))] (r.toList ++ []) μ Qq) := by
    intro q hq2 eq
    have ko : cO (kd t) ≠ 0 := by omega
    have tl := hE.lt a7.2 (fun z => by rw [z] at ko; exact absurd (by decide) ko)
    refine r_mustT (by decide) a1 st.1.2.1 hE st.2.1.2 st.2.1.1 a8 a6 a7.1 tl fun F1 w1 at1 => vX12_behindSum_227 66 q ?_
    have g : ∀ k, (k < 14 ∨ 17 < k) → F1 66 k = F 66 k := fun k hk => w1.2 66 k (by omega)
    have st1 : RSt lw tp len T K F1 E (t + 1) p d c (I ++ S) := st.mk' w1.r at1 (by omega) (by rw [g 19 (by omega)]; exact a8) ⟨by rw [g 23 (by omega)]; exact b1, by rw [g 26 (by omega)]; exact b2, by rw [g 30 (by omega)]; exact b3, by rw [g 29 (by omega)]; exact b4⟩ b5 b6 (by omega)
    refine ⟨k66, fun y => absurd (by rw [g 19 (by omega)]; exact a8) y, fun _ => ?_⟩
    refine r_settleS (by decide) hE st1 si (hh.mono (by decide)) fun F2 E2 c' v2 ag2 st2 sg2 cc2 ce => vX12_behindSum_239 66 q ?_
    obtain ⟨⟨d1, d2, _⟩, _, d6, d7, ⟨d8, _⟩, ⟨e1, e2, e3, e4⟩, e5, e6, e7⟩ := id st2
    have ln : ((I ++ S).length : Int) = I.length + S.length := by rw [List.length_append]; omega
    simp only [d2.f66_27, d2.f66_28, a1.k66, a1.k79, a1.k80, e4]
    refine ⟨trivial, by decide, trivial, by omega, fun E3 g3 => ⟨by decide, trivial, by omega, fun E4 g4 => ⟨by omega, fun F3 f3 => ?_⟩⟩⟩
    obtain ⟨p1, p2, p3, p4, p5⟩ := push_ok (cx := c0) (m := m0) (f := f) st2 (a := 0) (by omega : 20 ≤ q ∧ q ≤ 32) (by decide) g3 g4 f3
    have ex : em ((q, 0, c0, f, m0) :: S) = 1 + em S := by show (if q < 29 then 1 else 0) + em S = 1 + em S; rw [if_pos (by omega)]
    have lx : (((q, 0, c0, f, m0) :: S).length : Int) = S.length + 1 := by show ((S.length + 1 : Nat) : Int) = S.length + 1; omega
    refine hq 1 F3 E4 (hT ko F3 E4 c' (q, 0, c0, f, m0) ((w1.r.trans v2).trans p1) (fun j hj => by rw [p2.1, p2.2]; exact ag2 j hj) (st2.mk' p1 (d6.keep ⟨p5 14 (by decide), p5 15 (by decide), p5 16 (by decide), p5 17 (by decide), p5 18 (by decide)⟩) d7 ?_ ⟨?_, ?_, ?_, p4⟩ e5 p3 (by omega)) (fun g' hf hg => ?_) ⟨rfl, rfl, Int.le_of_lt cc2.1⟩ (by omega) rfl)
    · rw [p5 19 (by decide)]; exact d8
    · rw [p5 23 (by decide)]; exact e1
    · rw [p5 26 (by decide)]; exact e2
    · rw [p5 30 (by decide)]; exact e3
    · rw [p2.1, p2.2]
      exact ⟨cc2.2.1, Or.inl ⟨by show 20 ≤ q ∧ q < 28; omega, Int.le_of_lt cc2.1, sg2, cc2.2.2, hf, hg⟩⟩
  refine vX12_behindSum_167 66 0 ⟨fun _ => ⟨k66, fun z1 => ⟨fun z2 => ⟨fun z3 => ?_, fun y => go 27 (by decide) ?_⟩, fun y => go 26 (by decide) ?_⟩, fun y => go 25 (by decide) ?_⟩, fun y => absurd rfl y⟩
  · have k0 : cO (kd t) = 0 := by
      unfold cO
      rw [if_neg (fun y => z1 ((sgn 60 (by decide)).mpr y)), if_neg (fun y => z2 ((sgn 62 (by decide)).mpr y)), if_neg (fun y => z3 ((sgn 61 (by decide)).mpr y))]
    exact r_mustF a1 a8 (vX12_behindSum_227 66 27 ⟨k66, fun _ => hq 1 _ _ (hF k0 _ _ 1 (st.fail hE)), fun y => absurd y f19⟩)
  · rw [(sgn 61 (by decide)).mp y]; decide
  · rw [(sgn 62 (by decide)).mp y]; decide
  · rw [(sgn 60 (by decide)).mp y]; decide
/-- behind the second -/
theorem r_cmp2 (hE : TkE tp len T kd nm) {l : Launch} {G : pG} {bg : Nat × Nat} {n : Nat} {K : Int → Nat × Nat} {F E : Int → Int → Int} {Q : Option pV → pM → Prop} {test : Int} {S I : List It} {x : It} {t p d c : Int} (st : RSt lw tp len T K F E t p d c (I ++ x :: S)) (sb : AllB 5 I) (xo : 25 ≤ x.1 ∧ x.1 ≤ 27) (en : enc 3 (kd t)) (cx : cxt 5 S test) (h : LoopR l G bg n K test Q 2 F E) : LoopR l G bg n K test Q 3 F E := by
  have hl := hE.1
  have hTT := hE.2.2.1.2
  obtain ⟨⟨a1, a2, _⟩, _, _, _, _, ⟨b1, b2, b3, b4⟩, b5, b6, b7⟩ := id st
  have i : inn (I ++ x :: S) = inn S := by rw [inn_app (by decide) I sb, inn_lt (by omega)]
  refine turn_sum (Pp := fun v F' E' => v = 2 ∧ F' = F ∧ E' = E) st (fun bg' Qq hq => r_behindSum hE st (en.1 (by decide)) (en.2.1 (by decide)) ?_) (fun v F' E' q => by rw [q.1, q.2.1, q.2.2]; exact h)
  rw [i]
  refine r_101 a1 (cx (by decide)).1 (cx (by decide)).2 (r_isCompared a1 a2 b6 b4 (by omega) (fun _ => ?_) fun y => absurd ((cmpd_app I sb b6).mpr (Or.inl xo)) y)
  exact vX12_behindSum_167 66 1 ⟨fun y => absurd y (by decide), fun _ => hq 2 F E ⟨rfl, rfl, rfl⟩⟩
theorem rs_C (hE : TkE tp len T kd nm) : CRules kd (RS lw tp len T kd nm) := by
  have n3 : ¬ rst 3 := rst_no (by decide)
  have n5 : ¬ rst 5 := rst_no (by decide)
  have s3 : ∀ k, stc 3 k := fun k => by unfold stc; omega
  have c3 : ∀ S test, cxt 3 S test := fun S test z => absurd z (by decide)
  have e5 : ∀ k, enc 5 k := fun k => by unfold enc; omega
  refine ⟨fun d t p t' p' f ha => ?_, fun d t p t' p' f ha ko => ?_, fun d t p t' p' f t2 p2 g ha ko hb => ?_, fun d t p t' p' f t2 p2 g ha ko hb => ?_⟩
  · intro t0 t1 p0 p1 d0 d1 _ _
    obtain ⟨⟨r1, r2⟩, r3⟩ := ha t0 t1 p0 p1 d0 d1 (s3 _) (fun z => absurd z n3)
    refine ⟨⟨r1, fun z => by cases z⟩, fun l G bg n K F E Q test s S I c c0 m0 st hh cx ss hI hF _ => ?_⟩
    rcases hI with hI | hI
    · exact absurd hI.1 n5
    · exact r3 l G bg n K F E Q test s S I c c0 m0 st (hh.mono (by decide)) (c3 _ _) ((st_part (by decide)).mpr ((st_part (by decide)).mp ss)) (Or.inr ⟨n3, hI.2⟩) hF (fun z => by cases z)
  · intro t0 t1 p0 p1 d0 d1 _ _
    obtain ⟨⟨r1, r2⟩, r3⟩ := ha t0 t1 p0 p1 d0 d1 (s3 _) (fun z => absurd z n3)
    obtain ⟨q1, q2, q3⟩ := r2 rfl
    refine ⟨⟨r1, fun z => by cases z⟩, fun l G bg n K F E Q test s S I c c0 m0 st hh cx ss hI hF _ => ?_⟩
    rcases hI with hI | hI
    · exact absurd hI.1 n5
    · exact r3 l G bg n K F E Q test s S I c c0 m0 st (hh.mono (by decide)) (c3 _ _) ((st_part (by decide)).mpr ((st_part (by decide)).mp ss)) (Or.inr ⟨n3, hI.2⟩) (fun z => by cases z) (fun _ F1 E1 I1 c1 w1 ag st1 si => r_cmp hE st1 si q2 hh cx (fun _ F' E' y fl => hF rfl F' E' y (fl.pre w1)) (fun z => absurd ko z))
  · intro t0 t1 p0 p1 d0 d1 _ _
    obtain ⟨⟨r1, r2⟩, r3⟩ := ha t0 t1 p0 p1 d0 d1 (s3 _) (fun z => absurd z n3)
    obtain ⟨q1, q2, q3⟩ := r2 rfl
    have tl := hE.lt r1.2 (fun z => by rw [z] at ko; exact absurd (by decide) ko)
    obtain ⟨⟨u1, u2⟩, u3⟩ := hb (by omega) (by omega) (by omega) q1.2 d0 d1 (s3 _) (fun z => absurd z n3)
    refine ⟨⟨by omega, fun z => by cases z⟩, fun l G bg n K F E Q test s S I c c0 m0 st hh cx ss hI hF _ => ?_⟩
    rcases hI with hI | hI
    · exact absurd hI.1 n5
    · refine r3 l G bg n K F E Q test s S I c c0 m0 st (hh.mono (by decide)) (c3 _ _) ((st_part (by decide)).mpr ((st_part (by decide)).mp ss)) (Or.inr ⟨n3, hI.2⟩) (fun z => by cases z) (fun _ F1 E1 I1 c1 w1 ag st1 si => r_cmp hE st1 si q2 hh cx (fun z => absurd z ko) (fun _ F2 E2 c2 x w2 ag2 st2 io xe xo xf => ?_))
      refine u3 l G bg n K F2 E2 Q test 1 (x :: S) [] c2 c2 0 st2 ?_ (c3 _ _) ((st_part (by decide)).mpr (Or.inl rfl)) (Or.inr ⟨n3, rfl, rfl, rfl⟩) (fun _ F' E' y fl => hF rfl F' E' y (fl.pre (w1.trans w2))) (fun z => by cases z)
      show pBinds x.1 < 5
      rw [pb_c (by rcases cO_op ko with z | z | z <;> omega)]
      decide
  · intro t0 t1 p0 p1 d0 d1 _ _
    obtain ⟨⟨r1, r2⟩, r3⟩ := ha t0 t1 p0 p1 d0 d1 (s3 _) (fun z => absurd z n3)
    obtain ⟨q1, q2, q3⟩ := r2 rfl
    have tl := hE.lt r1.2 (fun z => by rw [z] at ko; exact absurd (by decide) ko)
    obtain ⟨⟨u1, u2⟩, u3⟩ := hb (by omega) (by omega) (by omega) q1.2 d0 d1 (s3 _) (fun z => absurd z n3)
    obtain ⟨v1, v2, v3⟩ := u2 rfl
    have kr : 25 ≤ cO (kd t') + 14 ∧ cO (kd t') + 14 ≤ 27 := by rcases cO_op ko with z | z | z <;> omega
    refine ⟨⟨by omega, fun _ => ⟨by omega, e5 _, (typ_t (by decide)).mpr (Tst.cmp (by omega))⟩⟩, fun l G bg n K F E Q test s S I c c0 m0 st hh cx ss hI hF hT => ?_⟩
    rcases hI with hI | hI
    · exact absurd hI.1 n5
    · refine r3 l G bg n K F E Q test s S I c c0 m0 st (hh.mono (by decide)) (c3 _ _) ((st_part (by decide)).mpr ((st_part (by decide)).mp ss)) (Or.inr ⟨n3, hI.2⟩) (fun z => by cases z) (fun _ F1 E1 I1 c1 w1 ag st1 si => r_cmp hE st1 si q2 hh cx (fun z => absurd z ko) (fun _ F2 E2 c2 x w2 ag2 st2 io xe xo xf => ?_))
      have x4 : pBinds x.1 = 4 := pb_c (by omega)
      refine u3 l G bg n K F2 E2 Q test 1 (x :: S) [] c2 c2 0 st2 (by show pBinds x.1 < 5; omega) (c3 _ _) ((st_part (by decide)).mpr (Or.inl rfl)) (Or.inr ⟨n3, rfl, rfl, rfl⟩) (fun z => by cases z) (fun _ F3 E3 I3 c4 w3 ag3 st3 si3 => ?_)
      have sb : AllB 5 I3 := by obtain ⟨_, _, _, sb, _⟩ := si3; exact sb
      refine r_cmp2 hE st3 sb (by omega) v2 cx ?_
      have it := (io g ((typ_s (by decide)).mp q3) ((typ_s (by decide)).mp v3)).congr ag3
      have si4 := (si3.mono (k' := 4) (by decide)).app it (by omega)
      rw [xe.1, xe.2.1, cmI_bin (by omega), xf, show x.1 - 14 = cO (kd t') by omega] at si4
      rw [list_app] at st3
      refine hT rfl F3 E3 (I3 ++ [x]) c4 ((w1.trans w2).trans w3) (fun j hj => ?_) st3 ?_
      · have b3 := ag3 j (by omega)
        have b2 := ag2 j hj
        have b1 := ag j hj
        exact ⟨b3.1.trans (b2.1.trans b1.1), b3.2.trans (b2.2.trans b1.2)⟩
      · rw [show m0 + (p2 - p) = m0 + (p' - p) + (0 + (p2 - p')) by omega]
        exact si4
theorem rs_N (hE : TkE tp len T kd nm) : NRules kd (RS lw tp len T kd nm) := by
  have n6 : ¬ rst 6 := rst_no (by decide)
  have n5 : ¬ rst 5 := rst_no (by decide)
  have s6 : ∀ k, stc 6 k := fun k => by unfold stc; omega
  have s5 : ∀ k, stc 5 k := fun k => by unfold stc; omega
  have e6 : ∀ k, enc 6 k := fun k => by unfold enc; omega
  -- one 'not'
  have go : ∀ (l : Launch) (G : pG) (bg : Nat × Nat) (n : Nat) (K : Int → Nat × Nat) (F E : Int → Int → Int) (Q : Option pV → pM → Prop) (test : Int) (S : List It) (t p d c : Int), RSt lw tp len T K F E t p d c S → kd t = 285 → t < T →
      (∀ F' E' x, FrQ F E F' E' → (E' 77 = E 77 ∧ E' 78 = E 78) → RSt lw tp len T K F' E' (t + 1) p d c (x :: S) → x.1 = 28 → x.2.2.1 = c → x.2.2.2.2 = 0 → LoopR l G bg n K test Q 0 F' E') → LoopR l G bg n K test Q 0 F E := by
    intro l G bg n K F E Q test S t p d c st hk tl hL
    have hl := hE.1
    have hTT := hE.2.2.1.2
    obtain ⟨⟨a1, a2, _⟩, ⟨a4, a5⟩, a6, a7, ⟨a8, _⟩, ⟨b1, b2, b3, b4⟩, b5, b6, b7⟩ := id st
    have wrd := at_word (v := 14836) 26 (by decide) rfl hE a6 a7.1 a7.2
    refine turn_plain (Pp := fun v F' E' => LoopR l G bg n K test Q v F' E') st (fun bg' Qq hq => ?_) (fun v F' E' q => q)
    refine vX12_readPlain_0 66 ?_
    simp only [a2.f66_27, a2.f66_28, a1.k66, a1.k79, a1.k80, b4]
    refine ⟨trivial, fun y => absurd (wrd.mpr hk) y, fun _ => ⟨by decide, trivial, by omega, fun E1 e1 => ⟨by decide, trivial, by omega, fun E2 e2 => ⟨by omega, fun F3 f3 => ?_⟩⟩⟩⟩
    obtain ⟨p1, p2, p3, p4, p5⟩ := push_ok (cx := c) (m := 0) (f := pZ) st (a := 0) (by decide : (20 : Int) ≤ 28 ∧ (28 : Int) ≤ 32) (by decide) e1 e2 f3
    have at3 : AtT tp len F3 t := a6.keep ⟨p5 14 (by decide), p5 15 (by decide), p5 16 (by decide), p5 17 (by decide), p5 18 (by decide)⟩
    refine r_nextT a1 p1.2.1 hE (by rw [p1.e]; exact a5) (by rw [p5 13 (by decide)]; exact a4) at3 a7.1 tl fun F4 w4 at4 => vX12_readPlain_21 (hq 0 F4 E2 ?_)
    have g : ∀ j, (j < 14 ∨ 17 < j) → F4 66 j = F3 66 j := fun j hj => w4.2 66 j (by omega)
    have ex : em (((28 : Int), (0 : Int), c, pZ, (0 : Int)) :: S) = 1 + em S := by show (if (28 : Int) < 29 then 1 else 0) + em S = 1 + em S; rw [if_pos (by decide)]
    have lx : ((((28 : Int), (0 : Int), c, pZ, (0 : Int)) :: S).length : Int) = S.length + 1 := by show ((S.length + 1 : Nat) : Int) = S.length + 1; omega
    have wr := (p1.trans w4.r)
    refine hL F4 E2 (28, 0, c, pZ, 0) wr p2 (st.mk' wr at4 (by omega) ?_ ⟨?_, ?_, ?_, ?_⟩ b5 p3 (by omega)) rfl rfl rfl
    · rw [g 19 (by omega), p5 19 (by decide)]; exact a8
    · rw [g 23 (by omega), p5 23 (by decide)]; exact b1
    · rw [g 26 (by omega), p5 26 (by decide)]; exact b2
    · rw [g 30 (by omega), p5 30 (by decide)]; exact b3
    · rw [g 29 (by omega)]; exact p4
  refine ⟨fun d t p t' p' f hk ha => ?_, fun d t p t' p' f hk ha => ?_, fun d t p ok t' p' f k1 k2 ha => ?_⟩
  · intro t0 t1 p0 p1 d0 d1 _ _
    have tl := hE.lt t1 (by omega)
    obtain ⟨⟨r1, r2⟩, r3⟩ := ha (by omega) (by omega) p0 p1 d0 d1 (s6 _) (fun z => absurd z n6)
    refine ⟨⟨by omega, fun z => by cases z⟩, fun l G bg n K F E Q test s S I c c0 m0 st hh cx ss hI hF _ => ?_⟩
    rcases hI with hI | ⟨_, e1, e2, e3⟩
    · exact absurd hI.1 n6
    subst e1
    have s0 := (st_plain (by decide)).mp ss
    subst s0
    refine go l G bg n K F E Q test S t p d c st hk tl fun F1 E1 x w1 e77 st1 xo xc xm => ?_
    exact r3 l G bg n K F1 E1 Q test 0 (x :: S) [] c c 0 st1 (by show pBinds x.1 < 4; rw [xo]; decide) (fun z => by rw [inn_lt (by omega)]; exact cx (by decide)) ((st_plain (by decide)).mpr rfl) (Or.inr ⟨n6, rfl, rfl, rfl⟩) (fun z F' E' y fl => hF rfl F' E' y (fl.pre w1)) (fun z => by cases z)
  · intro t0 t1 p0 p1 d0 d1 _ _
    have tl := hE.lt t1 (by omega)
    obtain ⟨⟨r1, r2⟩, r3⟩ := ha (by omega) (by omega) p0 p1 d0 d1 (s6 _) (fun z => absurd z n6)
    obtain ⟨q1, q2, q3⟩ := r2 rfl
    have tf := (typ_t (by decide)).mp q3
    refine ⟨⟨by omega, fun _ => ⟨q1, e6 _, (typ_t (by decide)).mpr tf.nt⟩⟩, fun l G bg n K F E Q test s S I c c0 m0 st hh cx ss hI hF hT => ?_⟩
    rcases hI with hI | ⟨_, e1, e2, e3⟩
    · exact absurd hI.1 n6
    subst e1
    subst e2
    subst e3
    have s0 := (st_plain (by decide)).mp ss
    subst s0
    refine go l G bg n K F E Q test S t p d c0 st hk tl fun F1 E1 x w1 e77 st1 xo xc xm => ?_
    refine r3 l G bg n K F1 E1 Q test 0 (x :: S) [] c0 c0 0 st1 (by show pBinds x.1 < 4; rw [xo]; decide) (fun z => by rw [inn_lt (by omega)]; exact cx (by decide)) ((st_plain (by decide)).mpr rfl) (Or.inr ⟨n6, rfl, rfl, rfl⟩) (fun z => by cases z) (fun _ F2 E2 I2 c2 w2 ag2 st2 si2 => ?_)
    have c00 := st.2.2.2.2.2.2.1.1
    have si3 := si2.app (x := x) ⟨by omega, Or.inr (Or.inl ⟨xo, xc, xm, tf⟩)⟩ (by rw [xo]; decide)
    rw [xc, xm, show cmI x f = pNt f by unfold cmI; rw [if_neg (by omega), if_pos xo], show 0 + (0 + (p' - p)) = 0 + (p' - p) by omega] at si3
    rw [list_app] at st2
    refine hT rfl F2 E2 (I2 ++ [x]) c2 (w1.trans w2) (fun j hj => ?_) st2 si3
    rw [← e77.1, ← e77.2]
    exact ag2 j hj
  · intro t0 t1 p0 p1 d0 d1 _ _
    obtain ⟨⟨r1, r2⟩, r3⟩ := ha t0 t1 p0 p1 d0 d1 (s5 _) (fun z => absurd z n5)
    refine ⟨⟨r1, fun z => ⟨(r2 z).1, e6 _, (typ_t (by decide)).mpr ((typ_t (by decide)).mp (r2 z).2.2)⟩⟩, fun l G bg n K F E Q test s S I c c0 m0 st hh cx ss hI hF hT => ?_⟩
    rcases hI with hI | hI
    · exact absurd hI.1 n6
    · have s0 := (st_plain (by decide)).mp ss
      exact r3 l G bg n K F E Q test s S I c c0 m0 st hh (fun _ => cx (by decide)) ((st_part (by decide)).mpr (Or.inr ⟨s0, k1, k2⟩)) (Or.inr ⟨n5, hI.2⟩) hF (fun z F1 E1 I1 c1 w1 ag st1 si => hT z F1 E1 I1 c1 w1 ag st1 (si.mono (by decide)))
theorem rs_all (hE : TkE tp len T kd nm) : Rules lw kd nm (RS lw tp len T kd nm) := ⟨rs_B0 hE, rs_S hE, rs_L0 hE, rs_L1 hE, rs_C hE, rs_B6 hE, rs_N hE, rs_L6 hE, rs_L7 hE⟩
/-- between two expressions -/
def RBs (lw : Bool) (tp : Int → Int) (len : Int) (T : Nat) (K : Int → Nat × Nat) (F E : Int → Int → Int) (t p c : Int) : Prop :=
  (KS K ∧ FS F ∧ ES E) ∧ (F 66 13 = len ∧ E 75 = tp) ∧ AtT tp len F t ∧ (0 ≤ t ∧ t ≤ T) ∧ (F 66 19 = 0 ∧ F 66 20 = if lw = true then 0 else 1) ∧ (F 66 23 = c ∧ F 66 26 = p) ∧ (0 ≤ c ∧ c ≤ t ∧ 0 ≤ p ∧ p ≤ 50)
theorem RSt.bs {K : Int → Nat × Nat} {F E : Int → Int → Int} {t p d c : Int} {L : List It} (h : RSt lw tp len T K F E t p d c L) : RBs lw tp len T K F E t p c := by
  obtain ⟨a1, a2, a3, a4, a5, ⟨b1, b2, _, _⟩, ⟨b3, b4, b5, _⟩, _, b6⟩ := h
  have := em_pos L
  exact ⟨a1, a2, a3, a4, a5, ⟨b1, b2⟩, by omega⟩
theorem r_expr (hE : TkE tp len T kd nm) {l : Launch} {G : pG} {bg : Nat × Nat} {n : Nat} {K : Int → Nat × Nat} {F E : Int → Int → Int} {Q : Option pV → pM → Prop} {md test t p c t' p' : Int} {ok : Bool} {f : tPhi} (hm : (md = 3 ∧ test = 0) ∨ (md = 9 ∧ test = 1)) (h : RBs lw tp len T K F E t p c) (hg : Gr lw kd nm md 0 t p pZ ok t' p' f)
    (hF : ok = false → ∀ F' E', FrQ F E F' E' → F' 66 19 = 1 → F' 66 18 = tB tp len t' → 0 ≤ F' 66 23 → F' 66 23 ≤ 400 → Q none (n, K, F', E'))
    (hT : ok = true → ∀ F' E' c', FrQ F E F' E' → (∀ j, j < c → E' 77 j = E 77 j ∧ E' 78 j = E 78 j) → RBs lw tp len T K F' E' t' p' c' → SegR (oL lw) (E' 77) (E' 78) c c' f (p' - p) (nwL lw) → c < c' → 1 ≤ p' - p → t ≤ t' → Q none (n, K, F', E')) : PC l G 6 mX12_readExpression bg [(2, 66), (0, test)] (n, K, F, E) Q := by
  obtain ⟨⟨a1, a2, a3⟩, ⟨a4, a5⟩, a6, a7, ⟨a8, a9⟩, ⟨b1, b2⟩, b3⟩ := id h
  have hl := hE.1
  have hTT := hE.2.2.1.2
  have hr := hg _ (rs_all hE)
  have nr : ¬ rst md := rst_no (by omega)
  obtain ⟨⟨r1, r2⟩, r3⟩ := hr a7.1 a7.2 b3.2.2.1 b3.2.2.2 (by decide) (by decide) (by unfold stc; omega) (fun z => absurd z nr)
  refine vX12_readExpression_0 66 test ⟨by rw [a1.k66], fun F1 f1 F2 f2 => ?_⟩
  have w2 : FrQ F E F2 E := by rw [f2, f1]; exact ((FrQ.refl a2).up (by omega)).up (by omega)
  have k2 : ∀ k, k ≠ 29 → k ≠ 30 → F2 66 k = F 66 k := fun k q1 q2 => by rw [f2, pUp_k q2, f1, pUp_k q1]
  have st : RSt lw tp len T K F2 E t p 0 c [] := ⟨⟨a1, w2.2.1, a3⟩, ⟨by rw [k2 13 (by decide) (by decide)]; exact a4, a5⟩, a6.keep ⟨k2 14 (by decide) (by decide), k2 15 (by decide) (by decide), k2 16 (by decide) (by decide), k2 17 (by decide) (by decide), k2 18 (by decide) (by decide)⟩, a7, ⟨by rw [k2 19 (by decide) (by decide)]; exact a8, by rw [k2 20 (by decide) (by decide)]; exact a9⟩, ⟨by rw [k2 23 (by decide) (by decide)]; exact b1, by rw [k2 26 (by decide) (by decide)]; exact b2, by rw [f2, pUp_s], by rw [f2, pUp_k (by decide), f1, pUp_s]; rfl⟩, by omega, trivial, ⟨by show c + 0 ≤ t; omega, by show ((0 : Nat) : Int) ≤ t; omega⟩⟩
  have k66 : (K 66).1 = 12 := by rw [a1.k66]
  -- how it ends
  have ef : ok = false → ∀ F' E' x, FlR tp len F2 E t' F' E' → LoopR l G bg n K test Q x F' E' := by
    intro z F' E' x fl
    obtain ⟨g1, g2, g3, L, g4, g5, g6, g7, g8⟩ := fl
    refine vX12_readExpression_20 66 test x ⟨k66, fun _ => r_settleAny (by decide) a1 L F' E' g1.2.1 g4 g5 g6 g7 g8 fun F3 E3 w3 q1 q2 => vX12_readExpression_81 (hF z F3 E3 ((w2.trans g1).trans w3.r) ?_ ?_ q1 q2), fun y => absurd y (by omega)⟩
    · rw [w3.2.2 66 19 (by omega)]; exact g2
    · rw [w3.2.2 66 18 (by omega)]; exact g3
  have e4 : ok = true → ∀ F' E' I c', FrQ F2 E F' E' → (∀ j, j < c → E' 77 j = E 77 j ∧ E' 78 j = E 78 j) → RSt lw tp len T K F' E' t' p' 0 c' (I ++ []) → StI (oL lw) (nwL lw) (E' 77) (E' 78) (kM md) I c c' f (0 + (p' - p)) → LoopR l G bg n K test Q 4 F' E' := by
    intro z F' E' I c' w ag st1 si
    refine vX12_readExpression_20 66 test 4 ⟨k66, fun y => absurd st1.2.2.2.2.1.1 y, fun _ => ⟨fun _ => ?_, fun y => absurd rfl y⟩⟩
    refine r_settleS (by decide) hE st1 (si.mono (by rcases hm with e | e <;> rw [e.1] <;> decide)) trivial fun F3 E3 c3 w3 ag3 st3 sg3 cc3 _ => vX12_readExpression_81 ?_
    refine hT z F3 E3 c3 ((w2.trans w).trans w3) (fun j hj => ⟨(ag3 j hj).1.trans (ag j hj).1, (ag3 j hj).2.trans (ag j hj).2⟩) st3.bs ?_ cc3.1 (by omega) r1.1
    rw [show p' - p = 0 + (p' - p) by omega]
    exact sg3
  have et : ok = true → ∀ F' E' I c', FrQ F2 E F' E' → (∀ j, j < c → E' 77 j = E 77 j ∧ E' 78 j = E 78 j) → RSt lw tp len T K F' E' t' p' 0 c' (I ++ []) → StI (oL lw) (nwL lw) (E' 77) (E' 78) (kM md) I c c' f (0 + (p' - p)) → LoopR l G bg n K test Q (eT md) F' E' := by
    intro z F' E' I c' w ag st1 si
    have lo := e4 z F' E' I c' w ag st1 si
    have en := (r2 z).2.1
    have sb : AllB 1 I := by obtain ⟨_, _, _, sb, _⟩ := si; exact sb.mono (by rcases hm with e | e <;> rw [e.1] <;> decide)
    have i : inn (I ++ []) = -1 := inn_app (by decide) I sb
    rcases hm with ⟨e, e'⟩ | ⟨e, e'⟩
    · subst e
      subst e'
      show LoopR l G bg n K 0 Q 3 F' E'
      refine turn_sum (Pp := fun v F'' E'' => v = 4 ∧ F'' = F' ∧ E'' = E') st1 (fun bg' Qq hq => r_behindSum hE st1 (en.1 (by decide)) (en.2.1 (by decide)) ?_) (fun v F'' E'' q => by rw [q.1, q.2.1, q.2.2]; exact lo)
      rw [i]
      exact vX12_behindSum_101 66 0 (-1) ⟨fun _ => ⟨fun y => absurd rfl y, fun _ => ⟨fun y => absurd rfl y, fun _ => hq 4 F' E' ⟨rfl, rfl, rfl⟩⟩⟩, fun y => absurd y (by decide)⟩
    · subst e
      subst e'
      show LoopR l G bg n K 1 Q 2 F' E'
      refine turn_test (Pp := fun v F'' E'' => v = 4 ∧ F'' = F' ∧ E'' = E') st1 (fun bg' Qq hq => r_behindTest hE st1 (en.2.2.1 (by decide)) (en.2.2.2 (by decide)) ?_) (fun v F'' E'' q => by rw [q.1, q.2.1, q.2.2]; exact lo)
      rw [i]
      exact vX12_behindTest_80 66 (-1) ⟨fun y => absurd rfl y, fun _ => hq 4 F' E' ⟨rfl, rfl, rfl⟩⟩
  refine ⟨fun z => ?_, fun z => ?_⟩
  · have e : md = 3 := by omega
    subst e
    exact r3 l G bg n K F2 E Q test 1 [] [] c c 0 st trivial (fun y => absurd y (by decide)) ((st_part (by decide)).mpr (Or.inl rfl)) (Or.inr ⟨nr, rfl, rfl, rfl⟩) ef et
  · have e : md = 9 := by omega
    subst e
    exact r3 l G bg n K F2 E Q test 0 [] [] c c 0 st trivial (fun _ => ⟨by decide, fun _ => z⟩) ((st_plain (by decide)).mpr rfl) (Or.inr ⟨nr, rfl, rfl, rfl⟩) ef et
end B
