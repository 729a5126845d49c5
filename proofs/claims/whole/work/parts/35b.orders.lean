/-! ORDERS in the class: a clause is run -/
section C
variable {l : Launch} {G : pG} {bg : Nat × Nat} {n : Nat} {K : Int → Nat × Nat} {Q : Option pV → pM → Prop} {L : Option tLaw} {mood bud : Int}
theorem oOne_no {x : tKl} {s : tOr} (h : ¬ tso x.2.2.1 (wO s)) : oOne L mood bud x s = some s := by unfold oOne; rw [if_neg h]
theorem oOne_bad {x : tKl} {s : tOr} (h : tso x.2.2.1 (wO s)) (a : ¬ oAllS x s) : oOne L mood bud x s = none := by unfold oOne; rw [if_pos h, if_neg a]
theorem oOne_neg {x : tKl} {s : tOr} (h : tso x.2.2.1 (wO s)) (a : oAllS x s) (r : (oAct L mood bud x.1 s.1 (oVal x s)).1 < 0) : oOne L mood bud x s = none := by unfold oOne; rw [if_pos h, if_pos a, if_neg (by omega)]
theorem oOne_pos {x : tKl} {s : tOr} (h : tso x.2.2.1 (wO s)) (a : oAllS x s) (r : 0 ≤ (oAct L mood bud x.1 s.1 (oVal x s)).1) : oOne L mood bud x s = some ((oAct L mood bud x.1 s.1 (oVal x s)).2, lgPush s.2.1 (oSort x.1, s.1), s.2.2.1 + 1, if x.1 = 0 then (oAct L mood bud x.1 s.1 (oVal x s)).1 else s.2.2.2) := by unfold oOne; rw [if_pos h, if_pos a, if_pos r]
theorem oRep_s {x : tKl} {s s' : tOr} {m : Nat} (h : oOne L mood bud x s = some s') : oRep L mood bud x (m + 1) s = oRep L mood bud x m s' := by
  show (match oOne L mood bud x s with | none => none | some s' => oRep L mood bud x m s') = _
  rw [h]
theorem oRep_n {x : tKl} {s : tOr} {m : Nat} (h : oOne L mood bud x s = none) : oRep L mood bud x (m + 1) s = none := by
  show (match oOne L mood bud x s with | none => none | some s' => oRep L mood bud x m s') = _
  rw [h]
theorem c_run_19 {x : tKl} {c : Int} (hK : KS K) (c0 : 0 ≤ c) (c12 : c < 12) (hko : KOk false x) (hm : 0 ≤ mood ∧ mood ≤ 9) (m : Nat) : ∀ (i B : Int) (s : tOr) (F E : Int → Int → Int), i + m = x.2.1 → 0 ≤ i → FS F → CO F E s → SOk B s → B + m ≤ 1000 → F 44 5 = -1 → KlC false (E 28) (E 29) (F 27 3) c x → F 27 3 ≤ 800 → LwC K F E L → E 4 2 = mood → E 4 0 = bud →
    (oRep L mood bud x m s = none → ∀ F' E', FrCo F E F' E' → F' 44 5 = c → Q none (n, K, F', E')) →
    (∀ s', oRep L mood bud x m s = some s' → ∀ F' E', FrCo F E F' E' → F' 44 5 = -1 → CO F' E' s' → Q none (n, K, F', E')) →
    PW l G 32 mX11_runClause bg 19 [(0, (2, 0)), (1, (2, 27)), (2, (0, c)), (3, (2, 48)), (4, (0, x.2.1)), (5, (0, i))] [] (n, K, F, E) Q := by
  have kr : 0 ≤ x.1 ∧ x.1 ≤ 3 := by have := hko.1; rw [lal_f] at this; exact this
  have tr := hko.2.1
  induction m with
  | zero =>
    intro i B s F E e i0 hF co so b1 h5 kl l8 lw e4 e5 hN hS
    exact vX11_runClause_19 0 27 c 48 _ i ⟨fun _ => hS s rfl F E (FrCo.refl hF) h5 co, fun z => absurd z (by omega)⟩
  | succ m ih =>
    intro i B s F E e i0 hF co so b1 h5 kl l8 lw e4 e5 hN hS
    have hw := so.wo (by omega)
    have ci := so.1
    have stp : ∀ F' E', oOne L mood bud x s = none → FrCo F E F' E' → F' 44 5 = c → PW l G 32 mX11_runClause bg 19 [(0, (2, 0)), (1, (2, 27)), (2, (0, c)), (3, (2, 48)), (4, (0, x.2.1)), (5, (0, i + 1))] [] (n, K, F', E') Q := fun F' E' o w v5 => by
      have q := hN (oRep_n o) F' E' w v5
      refine vX11_runClause_19 0 27 c 48 _ (i + 1) ⟨fun _ => q, fun _ => ?_⟩
      simp only [w.2.1.f0_12, hK.k0, hK.k44, v5]
      exact ⟨trivial, trivial, fun _ => q, fun z => absurd z (by omega)⟩
    have nxt : ∀ F' E' s', oOne L mood bud x s = some s' → FrCo F E F' E' → F' 44 5 = -1 → CO F' E' s' → PW l G 32 mX11_runClause bg 19 [(0, (2, 0)), (1, (2, 27)), (2, (0, c)), (3, (2, 48)), (4, (0, x.2.1)), (5, (0, i + 1))] [] (n, K, F', E') Q := fun F' E' s' o w v5 co' => by
      have e28 : E' 28 = E 28 := w.1 28 (by decide) (by decide) (by decide) (by decide) (by decide) (by decide) (by decide) (by decide) (by decide)
      have e29 : E' 29 = E 29 := w.1 29 (by decide) (by decide) (by decide) (by decide) (by decide) (by decide) (by decide) (by decide) (by decide)
      have e44 : E' 4 = E 4 := w.1 4 (by decide) (by decide) (by decide) (by decide) (by decide) (by decide) (by decide) (by decide) (by decide)
      have f27 : F' 27 3 = F 27 3 := w.2.2 27 3 (by decide) (by omega) (by omega)
      refine ih (i + 1) (B + 1) s' F' E' (by omega) (by omega) w.2.1 co' (oOne_ok kr so o) (by omega) v5 (by rw [e28, e29, f27]; exact kl) (by rw [f27]; exact l8) (w.lw lw) (by rw [e44]; exact e4) (by rw [e44]; exact e5) (fun q F2 E2 w2 => hN (by rw [oRep_s o]; exact q) F2 E2 (w.trans w2)) (fun s2 q F2 E2 w2 => hS s2 (by rw [oRep_s o]; exact q) F2 E2 (w.trans w2))
    refine vX11_runClause_19 0 27 c 48 _ i ⟨fun z => absurd z (by omega), fun _ => ?_⟩
    simp only [hF.f0_0, hF.f0_12, hF.f1_0, hK.k0, hK.k1, hK.k44, h5]
    refine ⟨trivial, trivial, fun z => absurd trivial z, fun _ => ⟨trivial, ?_⟩⟩
    refine c_setWords hK hF co (by have := ci.1; omega) fun E1 n1 w47 => vX11_runClause_51 0 27 c 48 _ i ?_
    have w47' : WOk (E1 47) 12 := fun k k0 k1 => by rw [w47 k k0 k1]; exact hw k k0 k1
    have wl : ∀ f, Loc f (nwL false) → f (E1 47) = f (wO s) := fun f hf => hf _ _ (fun k k0 k1 => w47 k k0 k1)
    simp only [hF.f0_12, hF.f44_0, hF.f44_1, hK.k0, hK.k44, hK.k45]
    refine ⟨trivial, trivial, trivial, c_mIsSo (S := 46) (nw := 12) (ts := x.2.2.1) (by rw [hK.k45]) hF.f45_0 hK.k46 (by decide) (by rw [hK.k27]) (by rw [hF.f27_0, hK.k28]) c0 (by rw [hF.f27_0, hK.k28]; show c * 6 + 6 ≤ 72; omega) (by omega) (by rw [hF.f27_1, hK.k29]) (by rw [hF.f27_1]; decide) (by decide) (by rw [hK.k47]) (by rw [hK.k47]; rfl) w47' ?_ fun E2 v n2 hv => ?_⟩
    · rw [hF.f27_0, hF.f27_1, hK.k29, n1 28 (by decide), n1 29 (by decide)]
      exact kl.2.2.1.grow rfl (fun _ _ => rfl) l8 (by decide)
    have tq : tso x.2.2.1 (E1 47) ↔ tso x.2.2.1 (wO s) := by
      unfold tso
      cases q : x.2.2.1 with
      | none => exact Iff.rfl
      | some f => dsimp only; rw [wl f (hko.2.2.1 f q)]
    have o2 : ∀ r, r ≠ 46 → r ≠ 47 → E2 r = E r := fun r a b => by rw [n2 r a, n1 r b]
    have w2 : FrCo F E F E2 := ⟨fun r _ _ _ _ _ _ a b _ => o2 r a b, hF, fun _ _ _ _ _ => rfl⟩
    have co2 : CO F E2 s := by
      obtain ⟨h1, h2, h3⟩ := co
      exact ⟨by rw [o2 3 (by decide) (by decide)]; exact h1, by rw [o2 11 (by decide) (by decide), o2 12 (by decide) (by decide)]; exact h2, h3⟩
    rcases hv with ⟨t, v1⟩ | ⟨t, v1⟩
    · -- it is so
      have t' := tq.mp t
      subst v1
      refine vX11_runClause_70 0 27 c 48 _ i 1 ⟨fun _ => ?_, fun z => absurd z (by decide)⟩
      simp only [hF.f0_12, hF.f44_0, hF.f44_1, hK.k0, hK.k44, hK.k45]
      refine ⟨trivial, trivial, trivial, vX4_setSums_0 45 27 c 47 48 (c_sums_3 (s := s) (E0 := E2) (x := x) hK hF c0 c12 l8 (by rw [o2 28 (by decide) (by decide), o2 29 (by decide) (by decide)]; exact kl) hko hw (fun j j0 j1 => by rw [n2 47 (by decide)]; exact w47 j j0 j1) 3 0 E2 (by decide) (by decide) (fun _ _ _ => rfl) (fun j j0 j1 => absurd j1 (by omega)) (fun E3 n3 na => ?_) (fun E3 n3 al v48 => ?_))⟩
      · -- a sum can't be reckoned
        have w3 : FrCo F E F E3 := w2.trans ⟨fun r _ _ _ _ _ _ a _ b => n3 r a b, hF, fun _ _ _ _ _ => rfl⟩
        refine vX11_runClause_100 0 27 c 48 _ i (-3) 0 ⟨fun _ => ⟨fun z => absurd z (by decide), fun _ => ?_⟩, fun z => absurd rfl z⟩
        simp only [hF.f0_12, hK.k0, hK.k44]
        refine ⟨trivial, trivial, fun F2 f2 => ⟨by omega, stp F2 E3 (oOne_bad t' na) (by rw [f2]; exact w3.up (by omega)) (by rw [f2, pUp_s])⟩⟩
      · have w3 : FrCo F E F E3 := w2.trans ⟨fun r _ _ _ _ _ _ a _ b => n3 r a b, hF, fun _ _ _ _ _ => rfl⟩
        have o3 : ∀ r, r ≠ 46 → r ≠ 47 → r ≠ 48 → E3 r = E r := fun r a b d => by rw [n3 r a d]; exact o2 r a b
        obtain ⟨h1, h2, h3, h6, h7⟩ := co
        have c3 : cz (E3 3) = s.1 := by rw [o3 3 (by decide) (by decide) (by decide)]; exact h1
        have l3 : lgC (F 10 2) (F 10 3) (E3 11) (E3 12) = s.2.1 := by rw [o3 11 (by decide) (by decide) (by decide), o3 12 (by decide) (by decide) (by decide)]; exact h2
        have k28 : E3 28 (c * 6 + 0) = x.1 := by rw [o3 28 (by decide) (by decide) (by decide)]; exact kl.1
        have lw3 : LwC K F E3 L := w3.lw lw
        have cc : ∀ k, 0 ≤ k → k < 117 → E3 3 k = s.1 k := fun k k0 k1 => by rw [← c3, cz_in k0 k1]
        -- behind an act that has an answer
        have aft : ∀ (F4 E4 : Int → Int → Int) (v : Int), FrCo F E F4 E4 → F4 44 3 = s.2.2.1 → F4 44 4 = s.2.2.2 → F4 44 5 = -1 → v = (oAct L mood bud x.1 s.1 (oVal x s)).1 → x.1 ≠ 0 → (0 ≤ v → cz (E4 3) = (oAct L mood bud x.1 s.1 (oVal x s)).2 ∧ lgC (F4 10 2) (F4 10 3) (E4 11) (E4 12) = lgPush s.2.1 (oSort x.1, s.1) ∧ ((0 ≤ F4 10 2 ∧ F4 10 2 < 16) ∧ 0 ≤ F4 10 3 ∧ F4 10 3 ≤ 16)) →
            ((0 ≤ v → (K 0).1 = 11 ∧ (K (F4 0 12)).1 = 7 ∧ (-2147483648 ≤ (F4 (F4 0 12) 3) + 1 ∧ (F4 (F4 0 12) 3) + 1 < 2147483648) ∧ (∀ F1, F1 = pUp F4 (F4 0 12) 3 ((F4 (F4 0 12) 3) + 1) → (-2147483648 ≤ i + 1 ∧ i + 1 < 2147483648) ∧ PW l G 32 mX11_runClause bg 19 [(0, (2, 0)), (1, (2, 27)), (2, (0, c)), (3, (2, 48)), (4, (0, x.2.1)), (5, (0, i + 1))] [] (n, K, F1, E4) Q)) ∧ (¬ (0 ≤ v) → (K 0).1 = 11 ∧ (K (F4 0 12)).1 = 7 ∧ (∀ F2, F2 = pUp F4 (F4 0 12) 5 c → (-2147483648 ≤ i + 1 ∧ i + 1 < 2147483648) ∧ PW l G 32 mX11_runClause bg 19 [(0, (2, 0)), (1, (2, 27)), (2, (0, c)), (3, (2, 48)), (4, (0, x.2.1)), (5, (0, i + 1))] [] (n, K, F2, E4) Q))) := by
          intro F4 E4 v w4 d3 d4 d5 ev xn hp
          have d3r := so.2.2.1
          simp only [w4.2.1.f0_12, hK.k0, hK.k44, d3]
          refine ⟨fun z => ⟨trivial, trivial, by omega, fun F5 f5 => ⟨by omega, ?_⟩⟩, fun z => ⟨trivial, trivial, fun F5 f5 => ⟨by omega, stp F5 E4 (oOne_neg t' al (by omega)) (by rw [f5]; exact w4.up (by omega)) (by rw [f5, pUp_s])⟩⟩⟩
          obtain ⟨q1, q2, q3⟩ := hp z
          have op := oOne_pos (L := L) (mood := mood) (bud := bud) t' al (by omega)
          rw [if_neg xn] at op
          refine nxt F5 E4 _ op (by rw [f5]; exact w4.up (by omega)) (by rw [f5, pUp_k (by decide)]; exact d5) ⟨q1, ?_, ?_, ?_, ?_⟩
          · rw [f5, pUp_a (by decide), pUp_a (by decide)]; exact q2
          · rw [f5, pUp_a (by decide), pUp_a (by decide)]; exact q3
          · rw [f5, pUp_s]
          · rw [f5, pUp_k (by decide)]; exact d4
        have act : ∀ (sort : Int) (r : Int × (Int → Int)) (Q2 : Option pV → pM → Prop), r = oAct L mood bud x.1 s.1 (oVal x s) → sort = oSort x.1 → x.1 ≠ 0 →
            (∀ (F4 E4 : Int → Int → Int), FrCo F E F4 E4 → F4 44 3 = s.2.2.1 → F4 44 4 = s.2.2.2 → F4 44 5 = -1 → (0 ≤ r.1 → cz (E4 3) = r.2 ∧ lgC (F4 10 2) (F4 10 3) (E4 11) (E4 12) = lgPush s.2.1 (oSort x.1, s.1) ∧ ((0 ≤ F4 10 2 ∧ F4 10 2 < 16) ∧ 0 ≤ F4 10 3 ∧ F4 10 3 ≤ 16)) → Q2 (some (0, r.1)) (n, K, F4, E4)) → CRes n K F E3 Q2 sort r := by
          intro sort r Q2 er es xn hq
          refine ⟨fun z => hq F E3 w3 h6 h7 h5 (fun y => absurd y (by omega)), fun z f sz kd cl g f0 f1 s0 s1 el eg => hq _ _ ⟨fun p a1 a2 a3 a4 a5 a6 a7 a8 a9 => ?_, (hF.up (by decide)).up (by decide), fun a k b1 b2 b3 => ?_⟩ ?_ ?_ ?_ (fun _ => ⟨?_, ?_, ?_⟩)⟩
          · rw [pRow_ne a1, pRow_ne a3, pRow_ne a2]; exact o3 p a7 a8 a9
          · unfold pUp; rw [if_neg (by omega), if_neg (by omega)]
          · rw [pUp_a (by decide), pUp_a (by decide)]; exact h6
          · rw [pUp_a (by decide), pUp_a (by decide)]; exact h7
          · rw [pUp_a (by decide), pUp_a (by decide)]; exact h5
          · rw [pRow_at]; exact eg
          · rw [pUp_k (by decide), pUp_s, pUp_s, pRow_ne (by decide), pRow_ne (by decide), pRow_at, pRow_ne (by decide), pRow_at, el, l3, c3, es]
          · rw [pUp_k (by decide), pUp_s, pUp_s]; exact ⟨⟨f0, f1⟩, s0, s1⟩
        refine vX11_runClause_100 0 27 c 48 _ i (-3) 1 ⟨fun z => absurd z (by decide), fun _ => ?_⟩
        simp only [hF.f27_0, hF.f0_0, hF.f0_3, hF.f1_0, hK.k0, hK.k1, hK.k27, hK.k28, hK.k48, k28]
        refine ⟨trivial, by omega, by omega, trivial, by omega, fun z => ⟨trivial, by decide, by decide, trivial, ?_⟩, fun z => ⟨trivial, trivial, trivial, by decide, by decide, by decide, ?_⟩, fun z => ⟨trivial, by decide, trivial, ?_⟩, fun z => ⟨trivial, by decide, by decide, trivial, ?_⟩⟩
        · -- index
          have x3 : x.1 = 3 := by omega
          have ns : nSm false x.1 = 2 := by rw [x3]; decide
          rw [v48 0 (by decide) (by omega), v48 1 (by decide) (by omega)]
          refine c_changeIndex hK hF h3.1.1 h3.1.2 h3.2.1 h3.2.2 (fun r r0 r1 => by rw [cc (6 + r) (by omega) (by omega)]; exact (ci.2.2.2.1 r r0 r1).2.1.1) ?_
          rw [c3]
          refine act 4 _ _ ?_ (by rw [x3]; decide) (by omega) (fun F4 E4 w4 d3 d4 d5 hp => vX11_runClause_211 0 27 c 48 _ i _ (aft F4 E4 _ w4 d3 d4 d5 ?_ (by omega) (fun y => ?_)))
          · unfold oAct; rw [if_neg (by omega), if_neg (by omega), if_neg (by omega)]
          · unfold oAct; rw [if_neg (by omega), if_neg (by omega), if_neg (by omega)]
          · have q := hp y
            unfold oAct; rw [if_neg (by omega), if_neg (by omega), if_neg (by omega)]
            exact q
        · -- come
          have ns : nSm false x.1 = 3 := by rw [z]; decide
          rw [v48 0 (by decide) (by omega), v48 1 (by decide) (by omega), v48 2 (by decide) (by omega)]
          have e43 : E3 4 = E 4 := o3 4 (by decide) (by decide) (by decide)
          have oa : oAct L mood bud x.1 s.1 (oVal x s) = ((sCome s.1 L mood bud (oVal x s 0) (oVal x s 1) (oVal x s 2)).1, (sCome s.1 L mood bud (oVal x s 0) (oVal x s 1) (oVal x s 2)).2.1) := by unfold oAct; rw [if_pos z]
          refine c_comeTo (x := 2) (y := 3) (u := 10) (c := s.1) (mood := mood) (bud := bud) hK hF (Or.inl ⟨rfl, rfl⟩) (Or.inr ⟨rfl, rfl⟩) c3 ci lw3 (by rw [e43]; exact e4) hm (by rw [e43]; exact e5) h3 fun F4 E4 w4 c4 l4 _ => ?_
          have w4' : FrCo F E F4 E4 := w3.trans ⟨fun r a1 a2 a3 a4 a5 a6 _ _ _ => w4.1 r a1 a2 a3 a4 a5 a6, w4.2.1, fun a k b1 b2 _ => w4.2.2 a k b1 b2⟩
          have d : ∀ k, F4 44 k = F 44 k := fun k => w4.2.2 44 k (by decide) (by omega)
          have op := oOne_pos (L := L) (mood := mood) (bud := bud) t' al
          have on := oOne_neg (L := L) (mood := mood) (bud := bud) t' al
          rw [oa] at op on
          rw [if_pos z] at op
          dsimp only at op on
          generalize hs : sCome s.1 L mood bud (oVal x s 0) (oVal x s 1) (oVal x s 2) = r at *
          refine vX11_runClause_160 0 27 c 48 _ i r.1 ?_
          have d3r := so.2.2.1
          simp only [w4.2.1.f0_12, hK.k0, hK.k44, d 3, h6]
          refine ⟨trivial, trivial, fun F5 f5 => ⟨fun y => ⟨by omega, fun F6 f6 => ⟨by omega, ?_⟩⟩, fun y F6 f6 => ⟨by omega, stp F6 E4 (on (by omega)) (by rw [f6, f5]; exact (w4'.up (by omega)).up (by omega)) (by rw [f6, pUp_s])⟩⟩⟩
          rcases l4 with ⟨_, _, l5, l6⟩ | ⟨q, _⟩
          · refine nxt F6 E4 _ (op y) (by rw [f6, f5]; exact (w4'.up (by omega)).up (by omega)) ?_ ⟨c4, ?_, ?_, ?_, ?_⟩
            · rw [f6, pUp_k (by decide), f5, pUp_k (by decide), d 5]; exact h5
            · show lgC (F6 10 2) (F6 10 3) (E4 11) (E4 12) = lgPush s.2.1 (oSort x.1, s.1)
              rw [f6, pUp_a (by decide), pUp_a (by decide), f5, pUp_a (by decide), pUp_a (by decide), l6, l3, z]
              rfl
            · rw [f6, pUp_a (by decide), pUp_a (by decide), f5, pUp_a (by decide), pUp_a (by decide)]; exact l5
            · rw [f6, pUp_s]
            · rw [f6, pUp_k (by decide), f5, pUp_s]
          · rcases q with q | q
            · exact absurd q (by decide)
            · omega
        · -- strike
          have ns : nSm false x.1 = 1 := by rw [z]; decide
          rw [v48 0 (by decide) (by omega)]
          refine c_strikeOut hK hF h3.1.1 h3.1.2 h3.2.1 h3.2.2 (by rw [cc 0 (by decide) (by decide)]; exact ci.1.2) ?_
          rw [c3]
          refine act 2 _ _ ?_ (by rw [z]; decide) (by omega) (fun F4 E4 w4 d3 d4 d5 hp => vX11_runClause_181 0 27 c 48 _ i _ (aft F4 E4 _ w4 d3 d4 d5 ?_ (by omega) (fun y => ?_)))
          · unfold oAct; rw [if_neg (by omega), if_pos z]
          · unfold oAct; rw [if_neg (by omega), if_pos z]
          · have q := hp y
            unfold oAct; rw [if_neg (by omega), if_pos z]
            exact q
        · -- window
          have ns : nSm false x.1 = 2 := by rw [z]; decide
          rw [v48 0 (by decide) (by omega), v48 1 (by decide) (by omega)]
          refine c_changeWindow hK hF h3.1.1 h3.1.2 h3.2.1 h3.2.2 (fun r r0 r1 => by rw [cc (9 + r) (by omega) (by omega)]; have := ci.2.2.2.1 r r0 r1; omega) ?_
          rw [c3]
          refine act 3 _ _ ?_ (by rw [z]; decide) (by omega) (fun F4 E4 w4 d3 d4 d5 hp => vX11_runClause_196 0 27 c 48 _ i _ (aft F4 E4 _ w4 d3 d4 d5 ?_ (by omega) (fun y => ?_)))
          · unfold oAct; rw [if_neg (by omega), if_neg (by omega), if_pos z]
          · unfold oAct; rw [if_neg (by omega), if_neg (by omega), if_pos z]
          · have q := hp y
            unfold oAct; rw [if_neg (by omega), if_neg (by omega), if_pos z]
            exact q
    · -- it isn't so
      subst v1
      refine vX11_runClause_70 0 27 c 48 _ i 0 ⟨fun z => absurd rfl z, fun _ => ⟨by omega, nxt F E2 s (oOne_no (fun q => t (tq.mpr q))) w2 h5 co2⟩⟩
end C
