/-! THE WAY OF ONE TUPLE in the reference: goBehind, comes -/
def AdvOk (l : Launch) (G : pG) (n : Nat) (K : Int → Nat × Nat) (c : Int → Int) (L : Option tLaw) (bud : Int) (og : Int → Int) (fx : Bool) (B : Int → Int) (r0 a0 b0 : Int) (k : Nat) : Prop :=
  ∀ (bg : Nat × Nat) (Q : Option pV → pM → Prop) (f m dp : Int) (st fd : Int → Int) (s : tS) (F E : Int → Int → Int) (T C : Int), 0 ≤ f → CtxR K F E c L og fx B r0 a0 b0 → StOk c r0 a0 b0 st fd → f + missN st = 2 → FrmR E f m st → RepR F E (c 0) s → SBd s T C → T + Xb k ≤ 100000000 → C + Xb k ≤ 1000000 → 0 ≤ T → 0 ≤ C → s.2.2.2 4 = 0 → 0 ≤ dp → dp + k = c 0 → manyM m = dp → 0 ≤ m → m < bShl 1 (c 0) →
    (∀ F' E', FrR f F E F' E' → RepR F' E' (c 0) (pS c (csS L B) bud og fx k m dp f st fd s) → (pS c (csS L B) bud og fx k m dp f st fd s).2.2.2 4 = 0 → PW l G 6 mX12_comes bg 201 [(0, (2, 66)), (4, (0, bud)), (7, (0, f - 1))] [] (n, K, F', E') Q) →
    (∀ F' E', FrR f F E F' E' → RepR F' E' (c 0) (pS c (csS L B) bud og fx k m dp f st fd s) → (pS c (csS L B) bud og fx k m dp f st fd s).2.2.2 4 = 1 → PW l G 6 mX12_comes bg 165 [(0, (2, 66)), (7, (0, f - 1))] [] (n, K, F', E') Q) →
    PW l G 6 mX12_comes bg 138 [(0, (2, 66)), (4, (0, bud)), (5, (0, f))] [] (n, K, F, E) Q
theorem miss_nonneg {st : Int → Int} : 0 ≤ missN st := by unfold missN; split <;> split <;> split <;> omega
theorem miss_open {st : Int → Int} {r v : Int} (q0 : 0 ≤ r) (q1 : r < 3) (hz : st r = 0) (hv : 0 < v) : missN (rUp st r v) = missN st - 1 := by
  unfold missN
  have hv0 : (v = 0) = False := eq_false (by omega)
  rcases (show r = 0 ∨ r = 1 ∨ r = 2 by omega) with e | e | e <;> subst e <;> simp only [rUpA, Int.reduceEq, reduceIte, hz, hv0] <;> omega
section R
variable {l : Launch} {G : pG} {bg : Nat × Nat} {n : Nat} {K : Int → Nat × Nat} {Q : Option pV → pM → Prop} {c : Int → Int} {L : Option tLaw} {og : Int → Int} {fx : Bool} {B : Int → Int} {r0 a0 b0 bud f : Int} {st fd : Int → Int}
/-- the frame behind -/
theorem r_goB_85 {F E : Int → Int → Int} {m o r x5 t tk : Int} (hK : KS K) (hF : FS F) (g0 : 0 ≤ f) (g1 : f < 2) (o0 : 0 ≤ o) (o1 : o < 4) (q0 : 0 ≤ r) (q1 : r < 3) (x0 : 0 ≤ x5) (x1 : x5 + 2 < 5535) (hf : FrmR E f m st) (ht : E 68 (x5 + 2) = t) (hk : E 92 o = tk) (kb : -100000000 ≤ tk ∧ tk ≤ 100000000) (hQ : ∀ E', FrR (f + 1) F E F E' → FrmR E' (f + 1) (addM m o) (rUp st r t) → (∀ p, E' 92 p = rUp (E 92) o (tk - 1) p) → E' 94 = E 94 → E' 95 = E 95 → Q (some (0, 1)) (n, K, F, E')) : PW l G 3 mX12_goBehind bg 85 [(0, (2, 66)), (1, (0, f)), (2, (0, o)), (3, (0, r)), (5, (0, x5)), (6, (0, 0))] [] (n, K, F, E) Q := by
  have step : ∀ (i : Int) (E : Int → Int → Int), 0 ≤ i → i < 3 → PW l G 3 mX12_goBehind bg 85 [(0, (2, 66)), (1, (0, f)), (2, (0, o)), (3, (0, r)), (5, (0, x5)), (6, (0, i + 1))] [] (n, K, F, pUp E 87 (3 * (f + 1) + i) (E 87 (3 * f + i))) Q → PW l G 3 mX12_goBehind bg 85 [(0, (2, 66)), (1, (0, f)), (2, (0, o)), (3, (0, r)), (5, (0, x5)), (6, (0, i))] [] (n, K, F, E) Q := fun i E i0 i1 q => by
    refine vX12_goBehind_85 66 f o r x5 i ⟨fun z => absurd z (by omega), fun _ => ?_⟩
    simp only [hF.f66_41, hK.k66, hK.k87]
    refine ⟨trivial, by omega, by omega, by omega, by omega, by omega, trivial, by omega, by decide, by omega, fun E4 e4 => ⟨by omega, ?_⟩⟩
    rw [e4]; exact q
  refine step 0 E (by decide) (by decide) (step (0 + 1) _ (by decide) (by decide) (step (0 + 1 + 1) _ (by decide) (by decide) ?_))
  rw [pUp_k (show 3 * f + (0 + 1) ≠ 3 * (f + 1) + 0 by omega), pUp_k (show 3 * f + (0 + 1 + 1) ≠ 3 * (f + 1) + (0 + 1) by omega), pUp_k (show 3 * f + (0 + 1 + 1) ≠ 3 * (f + 1) + 0 by omega)]
  rw [hf.1 0 (by decide) (by decide), hf.1 (0 + 1) (by decide) (by decide), hf.1 (0 + 1 + 1) (by decide) (by decide)]
  generalize eE : pUp (pUp (pUp E 87 (3 * (f + 1) + 0) (st 0)) 87 (3 * (f + 1) + (0 + 1)) (st (0 + 1))) 87 (3 * (f + 1) + (0 + 1 + 1)) (st (0 + 1 + 1)) = E3
  have n87 : ∀ r, r ≠ 87 → E3 r = E r := fun r hr => by rw [← eE, pUp_an hr, pUp_an hr, pUp_an hr]
  have fr3 : FrR (f + 1) F E F E3 := by
    rw [← eE]
    exact (((FrR.refl hF).upE (by omega)).upE (by omega)).upE (by omega)
  have v3 : ∀ p, 0 ≤ p → p < 3 → E3 87 (3 * (f + 1) + p) = st p := fun p p0 p1 => by
    rw [← eE]
    rcases (show p = 0 ∨ p = 1 ∨ p = 2 by omega) with e | e | e <;> subst e
    · rw [pUp_k (by omega), pUp_k (by omega), pUp_s]
    · rw [pUp_k (by omega)]; exact pUp_s
    · exact pUp_s
  refine vX12_goBehind_85 66 f o r x5 (0 + 1 + 1 + 1) ⟨fun _ => ?_, fun z => absurd (by decide) z⟩
  simp only [hF.f66_3, hF.f66_41, hF.f66_42, hF.f66_46, hK.k66, hK.k68, hK.k87, hK.k88, hK.k92]
  rw [n87 68 (by decide), ht]
  refine ⟨trivial, by omega, by omega, by omega, by omega, trivial, by omega, by decide, trivial, by omega, fun E4 e4 => ⟨trivial, by omega, by decide, by omega, fun E5 e5 => ⟨trivial, by omega, by decide, fun E6 e6 => ?_⟩⟩⟩
  have m88 : E4 88 f = m := by rw [e4, pUp_a (by decide), n87 88 (by decide)]; exact hf.2
  have k92 : E5 92 o = tk := by rw [e5, pUp_a (by decide), e4, pUp_a (by decide), n87 92 (by decide)]; exact hk
  rw [m88] at e5
  rw [k92, w32_id (by omega) (by omega)] at e6
  refine hQ E6 ?_ ⟨fun p p0 p1 => ?_, ?_⟩ (fun p => ?_) ?_ ?_
  · rw [e6, e5, e4]
    exact ((fr3.upE (by omega)).upE (by omega)).upE (by omega)
  · rw [e6, pUp_a (by decide), e5, pUp_a (by decide), e4]
    by_cases e : p = r
    · rw [e, pUp_s, rUp_s]
    · rw [pUp_k (by omega), rUp_n e]; exact v3 p p0 p1
  · rw [e6, pUp_a (by decide), e5, pUp_s]; rfl
  · rw [e6]
    by_cases e : p = o
    · rw [e, pUp_s, rUp_s]
    · rw [pUp_k e, rUp_n e, e5, pUp_a (by decide), e4, pUp_a (by decide), n87 92 (by decide)]
  · rw [e6, pUp_an (by decide), e5, pUp_an (by decide), e4, pUp_an (by decide), n87 94 (by decide)]
  · rw [e6, pUp_an (by decide), e5, pUp_an (by decide), e4, pUp_an (by decide), n87 95 (by decide)]
theorem shut_x4 {r : Int} {s : tS} : (shutS r s).2.2.2 4 = s.2.2.2 4 := show rUp s.2.2.2 2 (s.2.2.2 2 + 1) 4 = _ from rUp_n (by decide)
/-- the tuples of the state that frame f has opened, from i on -/
theorem r_go1 {k : Nat} (ihA : AdvOk l G n K c L bud og fx B r0 a0 b0 k) {o m dp : Int} (g0 : 0 ≤ f) (hs : StOk c r0 a0 b0 st fd) (hmi : f + missN st = 2) (o0 : 0 ≤ o) (o1 : o < c 0) (ho : opnP c st m o) (hto : toOp c st o ≠ -1) (d1 : dp + (k + 1 : Nat) = c 0) (d0 : 0 ≤ dp) (hm : manyM m = dp) (m0 : 0 ≤ m) (m1 : m < bShl 1 (c 0)) (w : Nat) :
    ∀ (i : Int) (s : tS) (F E : Int → Int → Int) (T C : Int), i + w = c (9 + toOp c st o) → 0 ≤ i → CtxR K F E c L og fx B r0 a0 b0 → FrmR E f m st → E 89 f = o → E 90 f = toOp c st o → E 91 f = i → RepR F E (c 0) s → SBd s T C → T + (1 + Xb k) * w ≤ 100000000 → C + (1 + Xb k) * w + 1 ≤ 1000000 → 0 ≤ T → 0 ≤ C → s.2.2.2 4 = 0 →
    (∀ F' E', FrR f F E F' E' → RepR F' E' (c 0) (shutS (toOp c st o) (lpS (fun i s' => pS c (csS L B) bud og fx k (addM m o) (dp + 1) (f + 1) (stOf c st (toOp c st o) i) (fdOf c fd (toOp c st o) i) (bump o (-1) s')) (qS c fd o (toOp c st o)) w i s)) → (lpS (fun i s' => pS c (csS L B) bud og fx k (addM m o) (dp + 1) (f + 1) (stOf c st (toOp c st o) i) (fdOf c fd (toOp c st o) i) (bump o (-1) s')) (qS c fd o (toOp c st o)) w i s).2.2.2 4 = 0 → PW l G 6 mX12_comes bg 201 [(0, (2, 66)), (4, (0, bud)), (7, (0, f - 1))] [] (n, K, F', E') Q) →
    (∀ F' E', FrR f F E F' E' → RepR F' E' (c 0) (shutS (toOp c st o) (lpS (fun i s' => pS c (csS L B) bud og fx k (addM m o) (dp + 1) (f + 1) (stOf c st (toOp c st o) i) (fdOf c fd (toOp c st o) i) (bump o (-1) s')) (qS c fd o (toOp c st o)) w i s)) → (lpS (fun i s' => pS c (csS L B) bud og fx k (addM m o) (dp + 1) (f + 1) (stOf c st (toOp c st o) i) (fdOf c fd (toOp c st o) i) (bump o (-1) s')) (qS c fd o (toOp c st o)) w i s).2.2.2 4 = 1 → PW l G 6 mX12_comes bg 165 [(0, (2, 66)), (7, (0, f - 1))] [] (n, K, F', E') Q) →
    PW l G 3 mX12_goBehind (0, 0) 23 [(0, (2, 66)), (1, (0, f)), (2, (0, o)), (3, (0, toOp c st o)), (4, (0, vTh c fd o (toOp c st o)))] [] (n, K, F, E) (fun r μ => PW l G 6 mX12_comes bg 212 [(0, (2, 66)), (4, (0, bud)), (7, (0, f))] (r.toList ++ []) μ Q) := by
  have xp := Xb_pos k
  induction w with
  | zero =>
    intro i s F E T C e i0 h hf h89 h90 h91 hr hb hT hC t0 c0 hg hA hB
    have h' := h
    obtain ⟨⟨hK, hF⟩, ⟨_, hCi⟩, _, _, _, ⟨_, ha0, hb0⟩, _⟩ := h'
    have tr := toOp_rng hCi o0 o1 hto
    have r9 := h.rd (k := 9 + toOp c st o) (j := 15 + toOp c st o) (by omega) (by omega) (by omega)
    have mn := miss_nonneg (st := st)
    refine vX12_goBehind_23 66 f o _ _ ?_
    simp only [hF.f66_3, hF.f66_45, hK.k66, hK.k68, hK.k91, h91, r9]
    refine ⟨trivial, trivial, by omega, by omega, trivial, by omega, fun _ => ?_, fun z => absurd (by omega) z⟩
    refine vX12_comes_212 66 bud f 0 ⟨fun z => absurd rfl z, fun _ => ⟨by rw [hK.k66], ?_⟩⟩
    refine r_shutIt (r := toOp c st o) hK hF g0 (by omega) hb (by omega) h90 hr fun F' E' f' r' => ?_
    exact vX12_comes_221 66 bud f ⟨by omega, hA F' E' f' r' hg⟩
  | succ w ihw =>
    intro i s F E T C e i0 h hf h89 h90 h91 hr hb hT hC t0 c0 hg hA hB
    have ey : (1 + Xb k) * ((w + 1 : Nat) : Int) = (1 + Xb k) + (1 + Xb k) * w := by rw [show ((w + 1 : Nat) : Int) = 1 + w by omega, Int.mul_add, Int.mul_one]
    have yp : 0 ≤ (1 + Xb k) * (w : Int) := Int.mul_nonneg (by omega) (by omega)
    rw [ey] at hT hC
    generalize hY : (1 + Xb k) * (w : Int) = Y at *
    have h' := h
    obtain ⟨⟨hK, hF⟩, ⟨_, hCi⟩, _, ⟨hog, _⟩, _, ⟨hr0, ha0, hb0⟩, _⟩ := h'
    have hp := hs.pt hCi ha0 hb0
    have hp0 : ∀ r, 0 ≤ r → r < 3 → 0 ≤ st r := fun r a b => (hp r a b).1
    obtain ⟨t1, t2, t3, t4, t5⟩ := toOp_yes hCi o0 o1 hp0 ho hto
    have rg := op_rng hCi o0 o1
    have bN := hCi.1
    have bs := bShl_rng bN.1 bN.2
    have bo := hb.1 o
    have mn := miss_nonneg (st := st)
    have hr0p := hs.1
    generalize er : toOp c st o = r at *
    have b9 := hCi.2.2.2.1 r t2.1 t2.2
    have r9 := h.rd (k := 9 + r) (j := 15 + r) (by omega) (by omega) (by omega)
    have fr : 0 ≤ fIn c o r ∧ fIn c o r < 2 := by unfold fIn; split <;> omega
    have rf := h.rd (k := 36 + (r * 9 + i) * 3 + fIn c o r) (j := 42 + 27 * r + 3 * i + fIn c o r) (by omega) (by omega) (by omega)
    have rs := h.rd (k := 36 + (r * 9 + i) * 3 + 2) (j := 42 + 27 * r + 3 * i + 2) (by omega) (by omega) (by omega)
    have ct := hCi.2.2.2.2.2 r i t2.1 t2.2 i0 (by omega)
    have sp : 1 ≤ c (36 + (r * 9 + i) * 3 + 2) := by rw [show 36 + (r * 9 + i) * 3 + 2 = 38 + 27 * r + 3 * i by omega]; exact ct.2.2.1.1
    have mo := miss_open (v := c (36 + (r * 9 + i) * 3 + 2)) t2.1 t2.2 t3 (by omega)
    have mn2 := miss_nonneg (st := rUp st r (c (36 + (r * 9 + i) * 3 + 2)))
    refine vX12_goBehind_23 66 f o _ _ ?_
    simp only [hF.f66_3, hF.f66_45, hK.k66, hK.k68, hK.k91, h91, r9]
    refine ⟨trivial, trivial, by omega, by omega, trivial, by omega, fun z => absurd z (by omega), fun _ => ⟨by omega, by omega, by omega, by omega, fun a1 e1 => ⟨by omega, by decide, fun E2 e2 => ?_⟩⟩⟩
    have fr2 : FrR f F E F E2 := by rw [e2]; exact (FrR.refl hF).upE (by omega)
    have h2 := h.keep fr2
    have hf2 : FrmR E2 f m st := by unfold FrmR; rw [e2, pUp_an (by decide), pUp_an (by decide)]; exact hf
    have hr2 : RepR F E2 (c 0) s := hr.same (by rw [e2, pUp_an (by decide)]) (by rw [e2, pUp_an (by decide)]) (by rw [e2, pUp_an (by decide)]) rfl rfl rfl rfl
    have e89 : E2 89 f = o := by rw [e2, pUp_a (by decide)]; exact h89
    have e90 : E2 90 f = r := by rw [e2, pUp_a (by decide)]; exact h90
    have e91 : E2 91 f = i + 1 := by rw [e2, pUp_s]
    have e68 : E2 68 = E 68 := by rw [e2, pUp_an (by decide)]
    refine r_fieldIn h2 o0 o1 ?_
    refine vX12_goBehind_75 66 f o r _ a1 _ a1 68 ?_
    rw [e1, hK.k68, e68, rf]
    refine ⟨by omega, rfl, ⟨by omega, show 42 + 27 * r + 3 * i + fIn c o r < 5535 by omega⟩, fun z => ?_, fun z => ?_⟩
    · have qi : ¬ (qS c fd o r i = true) := by unfold qS; rw [decide_eq_true_iff]; exact z
      refine ihw (i + 1) s F E2 T C (by omega) (by omega) h2 hf2 e89 e90 e91 hr2 hb (by omega) (by omega) t0 c0 hg (fun F' E' f' r' x' => hA F' E' (fr2.trans f') ?_ ?_) (fun F' E' f' r' x' => hB F' E' (fr2.trans f') ?_ ?_)
      all_goals unfold lpS
      all_goals rw [if_pos hg, if_neg qi]
      all_goals first | exact r' | exact x'
    · have qi : qS c fd o r i = true := by unfold qS; rw [decide_eq_true_iff]; exact z
      refine r_goB_85 (m := m) (tk := s.1 o) (t := c (36 + (r * 9 + i) * 3 + 2)) hK hF g0 (by omega) o0 (by omega) t2.1 t2.2 (by omega) (by omega) hf2 (by rw [e68]; exact rs) (hr2.1 o o0 o1) (by omega) fun E3 f3 hf3 k3 k4 k5 => ?_
      have fr3 : FrR f F E F E3 := fr2.trans (f3.less (by omega))
      have hr3 : RepR F E3 (c 0) (bump o (-1) s) := by
        obtain ⟨u1, u2, u3, u4⟩ := hr2
        refine ⟨fun p p0 p1 => ?_, by rw [k4]; exact u2, by rw [k5]; exact u3, u4⟩
        show _ = rUp s.1 o (s.1 o + -1) p
        rw [k3 p]
        by_cases e : p = o
        · rw [e, rUp_s, rUp_s]; omega
        · rw [rUp_n e, rUp_n e]; exact u1 p p0 p1
      have sk : StOk c r0 a0 b0 (stOf c st r i) (fdOf c fd r i) := by
        have nr : r0 ≠ r := fun q => by rw [q, t3] at hr0p; omega
        unfold stOf fdOf hdS
        refine ⟨by rw [rUp_n nr]; exact hr0p, fun p p0 p1 => ?_⟩
        by_cases e : p = r
        · subst e
          rw [rUp_s]
          refine ⟨by omega, fun _ => Or.inr ⟨fun q => nr q.symm, i, ⟨i0, by omega⟩, rfl, ?_, ?_⟩⟩
          · rw [rUp_n (by omega), show p * 2 + 0 = p * 2 by omega, rUp_s]
          · rw [rUp_s]
        · rw [rUp_n e, rUp_n (by omega), rUp_n (by omega), rUp_n (by omega), rUp_n (by omega)]
          exact hs.2 p p0 p1
      have ma := addM_rng m0 (show m < 16 by omega) o0 (show o < 4 by omega)
      have sb := pS_bd (bud := bud) (og := og) (fx := fx) (c := c) (cs := csS L B) (fun _ _ _ _ => csS_rng) hCi hog.1 k (addM m o) (dp + 1) (f + 1) (stOf c st r i) (fdOf c fd r i) (bump o (-1) s) (T + 1) C (by omega) (by omega) (hb.bump (Or.inr rfl))
      refine vX12_comes_212 66 bud f 1 ⟨fun _ => ⟨fun _ => ⟨by omega, ?_⟩, fun z => absurd g0 z⟩, fun z => absurd z (by decide)⟩
      refine ihA bg Q (f + 1) (addM m o) (dp + 1) (stOf c st r i) (fdOf c fd r i) (bump o (-1) s) F E3 (T + 1) C (by omega) (h.keep fr3) sk (by unfold stOf; omega) hf3 hr3 (hb.bump (Or.inr rfl)) (by omega) (by omega) (by omega) c0 hg (by omega) (by omega) (by rw [addM_many m0 (by omega) o0 (by omega) ho.1]; omega) ma.1 (addM_lt (c 0) (by omega) m0 m1 o0 o1) (fun F' E' f' r' x' => ?_) (fun F' E' f' r' x' => ?_)
      · rw [show f + 1 - 1 = f by omega]
        have fr4 : FrR f F E F' E' := fr3.trans (f'.less (by omega))
        have h4 := h.keep fr4
        have hF4 := fr4.2.2.2.1
        have k91 := (f'.2.2.1 f (by omega))
        have k912 := (f3.2.2.1 f (by omega))
        have hf4 : FrmR E' f m st := by
          refine ⟨fun p p0 p1 => ?_, ?_⟩
          · rw [f'.2.1 _ (by omega), f3.2.1 _ (by omega)]; exact hf2.1 p p0 p1
          · rw [k91.1, k912.1]; exact hf2.2
        have v89 : E' 89 f = o := by rw [k91.2.1, k912.2.1]; exact e89
        have v90 : E' 90 f = r := by rw [k91.2.2.1, k912.2.2.1]; exact e90
        refine vX12_comes_201 66 bud f ⟨fun q => absurd q (by omega), fun _ => ⟨by rw [hK.k66], ?_⟩⟩
        refine vX12_goBehind_0 66 f ?_
        simp only [hF4.f66_43, hF4.f66_44, hK.k66, hK.k89, hK.k90, v89, v90]
        refine ⟨trivial, trivial, by omega, trivial, by omega, r_wanted h4 hs hf4.1 g0 (by omega) o0 o1 t1 t4 (t5 _ rfl).2 ?_⟩
        refine vX12_goBehind_21 66 f o r _ ?_
        refine ihw (i + 1) _ F' E' (T + (1 + Xb k)) (C + (1 + Xb k)) (by omega) (by omega) h4 hf4 v89 v90 (by rw [k91.2.2.2, k912.2.2.2]; exact e91) r' (sb.wide (by omega) (by omega)) (by omega) (by omega) (by omega) (by omega) x' (fun F2 E4 f5 r5 x5 => hA F2 E4 (fr4.trans f5) ?_ ?_) (fun F2 E4 f5 r5 x5 => hB F2 E4 (fr4.trans f5) ?_ ?_)
        all_goals unfold lpS
        all_goals rw [if_pos hg, if_pos qi]
        all_goals first | exact r5 | exact x5
      · rw [show f + 1 - 1 = f by omega]
        have fr4 : FrR f F E F' E' := fr3.trans (f'.less (by omega))
        have hF4 := fr4.2.2.2.1
        have k91 := (f'.2.2.1 f (by omega))
        have k912 := (f3.2.2.1 f (by omega))
        have v90 : E' 90 f = r := by rw [k91.2.2.1, k912.2.2.1]; exact e90
        have lps : ∀ (ff : Int → tS → tS) (qq : Int → Bool) (W : Nat) (j : Int) (S : tS), S.2.2.2 4 = 1 → lpS ff qq W j S = S := by
          intro ff qq W j S hS
          cases W with
          | zero => rfl
          | succ W => unfold lpS; rw [if_neg (by omega)]
        refine vX12_comes_165 66 f ⟨fun q => absurd q (by omega), fun _ => ⟨by rw [hK.k66], ?_⟩⟩
        refine r_shutIt (r := r) hK hF4 g0 (by omega) (sb.wide (T' := T + (1 + Xb k)) (C' := C + (1 + Xb k)) (by omega) (by omega)) (by omega) v90 r' fun F2 E4 f5 r5 => ?_
        refine vX12_comes_176 66 f ⟨by omega, ?_⟩
        rw [show f + (-1) = f - 1 by omega]
        refine hB F2 E4 (fr4.trans f5) ?_ ?_
        all_goals unfold lpS
        all_goals rw [if_pos hg, if_pos qi, lps _ _ _ _ _ x']
        · exact r5
        · exact x'
theorem adv_all (k : Nat) : AdvOk l G n K c L bud og fx B r0 a0 b0 k := by
  induction k using Nat.strongRecOn with
  | ind k ih =>
    intro bg Q f m dp st fd s F E T C g0 h hs hmi hf hr hb hT hC t0 c0 hg d0 d1 hm m0 m1 hA hB
    have h' := h
    obtain ⟨⟨hK, hF⟩, ⟨_, hCi⟩, _, _, _, ⟨_, ha0, hb0⟩, _⟩ := h'
    have bN := hCi.1
    have bs := bShl_rng bN.1 bN.2
    have mn := miss_nonneg (st := st)
    have hp := hs.pt hCi ha0 hb0
    have hp0 : ∀ r, 0 ≤ r → r < 3 → 0 ≤ st r := fun r a b => (hp r a b).1
    have rd0 := h.rd (k := 0) (j := 6) (by decide) (by decide) (by decide)
    refine vX12_comes_138 66 bud f ⟨fun z => absurd g0 (by omega), fun _ => ⟨by rw [hK.k66], ?_⟩⟩
    refine vX12_advance_0 66 f bud ?_
    simp only [hF.f66_3, hK.k66, hK.k68, rd0]
    refine ⟨trivial, trivial, by decide, by omega, ?_⟩
    refine r_advance_12 g0 (by omega) hs k m dp s F E T C h hf hr hb hT hC t0 c0 hg d0 d1 hm m0 m1 (fun F' E' f' r' x' => ?_) (fun F' E' f' r' x' => ?_) (fun k' o m' dp' s2 T' C' F' E' q1 q2 q3 q4 q5 q6 q7 q8 q9 q10 q11 q12 q13 q14 q15 f' hf' v89 v90 v91 r' => ?_)
    · exact vX12_comes_151 66 bud f 0 ⟨fun _ => ⟨fun _ => ⟨by omega, hA F' E' f' r' x'⟩, fun z => absurd z (by decide)⟩, fun z => absurd z (by decide)⟩
    · exact vX12_comes_151 66 bud f 2 ⟨fun z => absurd rfl z, fun _ => ⟨by omega, hB F' E' f' r' x'⟩⟩
    · refine vX12_comes_151 66 bud f 1 ⟨fun _ => ⟨fun z => absurd rfl z, fun _ => ?_⟩, fun z => absurd z (by decide)⟩
      have h4 := h.keep f'
      have hF4 := f'.2.2.2.1
      obtain ⟨t1, t2, t3, t4, t5⟩ := toOp_yes hCi q2.1 q2.2 hp0 q3 q4
      have b9 := hCi.2.2.2.1 _ t2.1 t2.2
      have xp := Xb_pos k'
      have mb : (1 + Xb k') * ((c (9 + toOp c st o)).toNat : Int) ≤ (1 + Xb k') * 9 := Int.mul_le_mul_of_nonneg_left (by omega) (by omega)
      refine vX12_comes_201 66 bud f ⟨fun q => absurd q (by omega), fun _ => ⟨by rw [hK.k66], ?_⟩⟩
      refine vX12_goBehind_0 66 f ?_
      simp only [hF4.f66_43, hF4.f66_44, hK.k66, hK.k89, hK.k90, v89, v90]
      refine ⟨trivial, trivial, by omega, trivial, by omega, r_wanted h4 hs hf'.1 g0 (by omega) q2.1 q2.2 t1 t4 (t5 _ rfl).2 ?_⟩
      refine vX12_goBehind_21 66 f o _ _ ?_
      refine r_go1 (ih k' q1) g0 hs hmi q2.1 q2.2 q3 q4 q5 q6 q7 q8.1 q8.2 (c (9 + toOp c st o)).toNat 0 s2 F' E' T' C' (by omega) (by decide) h4 hf' v89 v90 v91 r' q9 (by omega) (by omega) q12 q13 q14 (fun F2 E2 f2 r2 x2 => hA F2 E2 (f'.trans f2) ?_ ?_) (fun F2 E2 f2 r2 x2 => hB F2 E2 (f'.trans f2) ?_ ?_)
      all_goals rw [q15]
      all_goals first | exact r2 | (rw [shut_x4]; exact x2)
end R
