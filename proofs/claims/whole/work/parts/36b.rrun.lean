/-! ORDERS in the reference: one order is run -/
section R
variable {l : Launch} {G : pG} {bg : Nat × Nat} {n : Nat} {K : Int → Nat × Nat} {F E : Int → Int → Int} {Q : Option pV → pM → Prop} {L : Option tLaw} {mood bud : Int} {g : Int → Int}
theorem RO.at {s : tOr} (h : RO g F E s) {k j : Int} (k0 : 0 ≤ k) (k1 : k < 117) (e : j = k + 6) : E 68 j = s.1 k := by rw [← h.1.1, czs_at k0 k1 e]
theorem RO.env {s : tOr} (h : RO g F E s) (ci : CInv s.1) (h85 : E 85 1 = s.1 1 ∧ E 85 2 = s.2.2.1 ∧ E 85 3 = s.2.2.2 ∧ E 85 4 = s.1 2 ∧ E 85 5 = s.1 0) : EnvR 1 E (wO s) := by
  have c0 := ci.1
  refine Or.inr ⟨rfl, by rw [h.at (k := 0) (j := 6) (by decide) (by decide) (by decide)]; exact c0, fun i i0 i1 => ?_, fun r r0 r1 => ?_, fun r r0 r1 => ?_⟩
  · have q : i = 1 ∨ i = 2 ∨ i = 3 ∨ i = 4 ∨ i = 5 := by omega
    rcases q with e | e | e | e | e <;> subst e
    · exact h85.1
    · exact h85.2.1
    · exact h85.2.2.1
    · exact h85.2.2.2.1
    · exact h85.2.2.2.2
  · rw [h.at (k := 9 + r) (j := 15 + r) (by omega) (by omega) (by omega)]
    unfold wO
    rw [if_neg (by omega), if_neg (by omega), if_neg (by omega), if_neg (by omega), if_neg (by omega), if_pos (by omega), show 4 + (5 + r) = 9 + r by omega]
  · rw [h.at (k := 0) (j := 6) (by decide) (by decide) (by decide), h.at (k := 17 + 6 * r) (j := 18 + 6 * r + 5) (by omega) (by omega) (by omega)]
    have w8 : wO s (8 + r) = if r < s.1 0 then s.1 (17 + 6 * r) else -1000 := by
      unfold wO
      rw [if_neg (by omega), if_neg (by omega), if_neg (by omega), if_neg (by omega), if_neg (by omega), if_neg (by omega), show 8 + r - 8 = r by omega, show 6 * (8 + r) - 31 = 17 + 6 * r by omega]
    rw [w8]
    by_cases z : r < s.1 0
    · rw [if_pos (by omega), if_pos z]
    · rw [if_neg (by omega), if_neg z]
theorem r_run {N : Nat} {e B : Int} {x : tKl} {s : tOr} (n12 : N < 12) (hK : KS K) (hF : FS F) (h : RO g F E s) (so : SOk B s) (b1 : B ≤ 1000) (hko : KOk false x) (kl : KlO (E 103) (E 77) (E 78) e N x) (ph : ∀ j, 0 ≤ j → j < 3 → j < nSm false x.1 → PhOk (x.2.2.2 j) 12) (ht : ∀ f, x.2.2.1 = some f → Tst f) (hl : LawF g L) (hlo : LwOk L) (hm : g 5 = mood) (m0 : 0 ≤ mood ∧ mood ≤ 9) (hbu : g 3 = bud)
    (hN : oOne L mood bud x s = none → ∀ F' E' v, v < 0 → FrRu F E F' E' → Q (some (0, v)) (n, K, F', E'))
    (hS : ∀ s', oOne L mood bud x s = some s' → ∀ F' E', FrRu F E F' E' → RO g F' E' s' → Q (some (0, 0)) (n, K, F', E')) : PC l G 9 mX12_run bg [(2, 66), (0, 10 * (N : Int))] (n, K, F, E) Q := by
  have ci := so.1
  have hw := so.wo b1
  have kr : 0 ≤ x.1 ∧ x.1 ≤ 3 := by have := hko.1; rw [lal_f] at this; exact this
  obtain ⟨q1, q2, q3, q4, q5, q6⟩ := id h
  refine vX12_run_0 66 (10 * (N : Int)) ?_
  simp only [hF.f66_3, hF.f66_36, hF.f66_67, hK.k66, hK.k68, hK.k85, hK.k103, q4, q5]
  refine ⟨trivial, trivial, by decide, by decide, trivial, by decide, fun E1 e1 => ⟨by decide, fun E2 e2 => ⟨by decide, fun E3 e3 => ⟨by decide, by decide, fun E4 e4 => ⟨by decide, by decide, fun E5 e5 F6 f6 => ⟨by omega, trivial, by omega, by omega, by omega, ?_⟩⟩⟩⟩⟩⟩
  have n5 : ∀ r, r ≠ 85 → E5 r = E r := fun r hr => by rw [e5, pUp_an hr, e4, pUp_an hr, e3, pUp_an hr, e2, pUp_an hr, e1, pUp_an hr]
  have w6 : FrRu F E F6 E5 := by
    refine ⟨fun r _ _ _ d => n5 r (by omega), by rw [f6]; exact hF.up (by decide), fun a k q => by rw [f6]; unfold pUp; rw [if_neg (by omega)], fun j _ _ => by rw [n5 71 (by decide)], fun j _ => by rw [n5 68 (by decide)]⟩
  have hF6 := w6.2.1
  have g6 : ∀ k, k ≠ 71 → F6 66 k = F 66 k := fun k hk => by rw [f6, pUp_k hk]
  have keep : ∀ F' E', FrSm F6 E5 F' E' → RO g F' E' s := fun F' E' w => by
    refine ⟨by rw [w.1 68 (by decide), n5 68 (by decide)]; exact q1, ?_, ?_, ?_, ?_, ?_⟩
    · rw [w.2.2 66 8 (by omega), g6 8 (by decide), w.1 72 (by decide), w.1 71 (by decide), n5 72 (by decide), n5 71 (by decide)]; exact q2
    · rw [w.2.2 66 8 (by omega), g6 8 (by decide)]; exact q3
    · rw [w.2.2 66 68 (by omega), g6 68 (by decide)]; exact q4
    · rw [w.2.2 66 69 (by omega), g6 69 (by decide)]; exact q5
    · rw [w.2.2 66 20 (by omega), g6 20 (by decide)]; exact q6
  have v85 : E5 85 1 = s.1 1 ∧ E5 85 2 = s.2.2.1 ∧ E5 85 3 = s.2.2.2 ∧ E5 85 4 = s.1 2 ∧ E5 85 5 = s.1 0 := by
    refine ⟨?_, ?_, ?_, ?_, ?_⟩
    · rw [e5, pUp_k (by decide), e4, pUp_k (by decide), e3, pUp_k (by decide), e2, pUp_k (by decide), e1, pUp_s]; exact h.at (by decide) (by decide) (by decide)
    · rw [e5, pUp_k (by decide), e4, pUp_k (by decide), e3, pUp_k (by decide), e2, pUp_s]
    · rw [e5, pUp_k (by decide), e4, pUp_k (by decide), e3, pUp_s]
    · rw [e5, pUp_k (by decide), e4, pUp_s]; exact h.at (by decide) (by decide) (by decide)
    · rw [e5, pUp_s]; exact h.at (by decide) (by decide) (by decide)
  have env : ∀ F' E', FrSm F6 E5 F' E' → EnvR 1 E' (wO s) := fun F' E' w => (keep F' E' w).env ci (by rw [w.1 85 (by decide)]; exact v85)
  have klk : ∀ F' E', FrSm F6 E5 F' E' → KlO (E' 103) (E' 77) (E' 78) e N x := fun F' E' w => by
    rw [w.1 103 (by decide), w.1 77 (by decide), w.1 78 (by decide), n5 103 (by decide), n5 77 (by decide), n5 78 (by decide)]; exact kl
  have s0 : sA 0 = 1 := by decide
  have s1 : sA 1 = 3 := by decide
  have s2 : sA 2 = 8 := by decide
  -- the sums and the act
  have body : ∀ F7 E7, FrSm F6 E5 F7 E7 → F7 66 71 = 0 → tso x.2.2.1 (wO s) → PC l G 3 mX12_sumOf (0, 0) [(2, 66), (0, 10 * (N : Int) + 1)] (n, K, F7, E7) (fun r μ => PW l G 9 mX12_run bg 117 [(0, (2, 66)), (1, (0, 10 * (N : Int)))] (r.toList ++ []) μ Q) := by
    intro F7 E7 w7 z7 t
    have off : ∀ F' E', FrSm F6 E5 F' E' → F' 66 71 = 1 → ¬ oAllS x s → Q (some (0, -3)) (n, K, F', E') := fun F' E' w z na => hN (oOne_bad t na) F' E' (-3) (by decide) (w6.trans w.ru)
    -- behind all sums
    have act : ∀ F9 E9 a b c, FrSm F6 E5 F9 E9 → F9 66 71 = 0 → oAllS x s → (0 < nSm false x.1 → a = oVal x s 0) → (1 < nSm false x.1 → b = oVal x s 1) → (2 < nSm false x.1 → c = oVal x s 2) → PW l G 9 mX12_run bg 134 [(0, (2, 66)), (1, (0, 10 * (N : Int))), (2, (0, a)), (3, (0, b))] [(0, c)] (n, K, F9, E9) Q := by
      intro F9 E9 a b c w9 z9 al ha hb hc
      have hF9 := w9.2.1
      have r9 := keep F9 E9 w9
      obtain ⟨p1, p2, p3, p4, p5, p6⟩ := id r9
      have k103 : E9 103 (10 * (N : Int)) = x.1 := (klk F9 E9 w9).1
      have w69 := w6.trans w9.ru
      have d3r := so.2.2.1
      -- behind the act
      have aft : ∀ F10 E10 v, FrRu F9 E9 F10 E10 → F10 66 68 = s.2.2.1 → F10 66 69 = s.2.2.2 → v = (oAct L mood bud x.1 s.1 (oVal x s)).1 → (0 ≤ v → RowOk g (E10 68) (oAct L mood bud x.1 s.1 (oVal x s)).2 ∧ lgR (F10 66 8) (E10 72) (E10 71) = lgPush s.2.1 (oSort x.1, s.1) ∧ (0 ≤ F10 66 8 ∧ F10 66 8 ≤ 16)) → PW l G 9 mX12_run bg 160 [(0, (2, 66)), (1, (0, 10 * (N : Int)))] [(0, v)] (n, K, F10, E10) Q := by
        intro F10 E10 v w10 d3 d4 ev hp
        have hF10 := w10.2.1
        have k103' : E10 103 (10 * (N : Int)) = x.1 := by rw [w10.1 103 (by decide) (by decide) (by decide) (by decide)]; exact k103
        have v20 : F10 66 20 = 0 := by rw [w10.2.2.1 66 20 (by omega)]; exact p6
        refine vX12_run_160 66 _ v ?_
        simp only [hF10.f66_67, hK.k66, hK.k103, k103', d3, d4]
        refine ⟨fun y => ?_, fun y => hN (oOne_neg t al (by omega)) F10 E10 (-3) (by decide) (w69.trans w10)⟩
        obtain ⟨u1, u2, u3⟩ := hp y
        have op := oOne_pos (L := L) (mood := mood) (bud := bud) t al (by omega)
        refine ⟨trivial, trivial, by omega, fun k F11 f11 => ⟨by omega, fun F12 f12 => ?_⟩, fun k F11 f11 => ⟨by omega, fun F12 f12 => ?_⟩⟩
        · rw [if_neg k] at op
          refine hS _ op F12 E10 (by rw [f12, f11]; exact ((w69.trans w10).up (by omega)).up (by omega)) ⟨u1, ?_, ?_, ?_, ?_, ?_⟩
          · rw [f12, pUp_k (by decide), f11, pUp_k (by decide)]; exact u2
          · rw [f12, pUp_k (by decide), f11, pUp_k (by decide)]; exact u3
          · rw [f12, pUp_s]
          · rw [f12, pUp_k (by decide), f11, pUp_s]
          · rw [f12, pUp_k (by decide), f11, pUp_k (by decide)]; exact v20
        · rw [if_pos k] at op
          refine hS _ op F12 E10 (by rw [f12, f11]; exact ((w69.trans w10).up (by omega)).up (by omega)) ⟨u1, ?_, ?_, ?_, ?_, ?_⟩
          · rw [f12, pUp_k (by decide), f11, pUp_k (by decide)]; exact u2
          · rw [f12, pUp_k (by decide), f11, pUp_k (by decide)]; exact u3
          · rw [f12, pUp_s]
          · rw [f12, pUp_k (by decide), f11, pUp_s]; exact ev
          · rw [f12, pUp_k (by decide), f11, pUp_k (by decide)]; exact v20
      have rres : ∀ (sort : Int) (r : Int × (Int → Int)) (Q2 : Option pV → pM → Prop), sort = oSort x.1 →
          (∀ F10 E10, FrRu F9 E9 F10 E10 → F10 66 68 = s.2.2.1 → F10 66 69 = s.2.2.2 → (0 ≤ r.1 → RowOk g (E10 68) r.2 ∧ lgR (F10 66 8) (E10 72) (E10 71) = lgPush s.2.1 (oSort x.1, s.1) ∧ (0 ≤ F10 66 8 ∧ F10 66 8 ≤ 16)) → Q2 (some (0, r.1)) (n, K, F10, E10)) → RRes n K F9 E9 Q2 sort r := by
        intro sort r Q2 es hq
        refine ⟨fun z => hq F9 E9 (FrRu.refl hF9) p4 p5 (fun y => absurd y (by omega)), fun z nu un so' g' nu0 nu1 el uo ro => hq _ _ ⟨fun r' a1 a2 a3 _ => ?_, hF9.up (by decide), fun a k q' => ?_, fun j j0 j1 => ?_, fun j hj => by rw [pRow_at]; exact ro.2 j hj⟩ ?_ ?_ (fun _ => ⟨?_, ?_, ?_⟩)⟩
        · rw [pRow_ne a1, pRow_ne a3, pRow_ne a2]
        · unfold pUp; rw [if_neg (by omega)]
        · rw [pRow_ne (by decide), pRow_ne (by decide), pRow_at]; exact uo j j0 j1
        · rw [pUp_k (by decide)]; exact p4
        · rw [pUp_k (by decide)]; exact p5
        · rw [pRow_at]; exact ⟨ro.1, fun j hj => (ro.2 j hj).trans (p1.2 j hj)⟩
        · rw [pUp_s, pRow_ne (by decide), pRow_at, pRow_ne (by decide), pRow_ne (by decide), pRow_at, el, p2, p1.1, es]
        · rw [pUp_s]; exact ⟨nu0, nu1⟩
      refine vX12_run_134 66 _ a b c ?_
      simp only [hF9.f66_67, hK.k66, hK.k103, k103, z9]
      refine ⟨trivial, fun _ => ⟨trivial, by omega, ?_⟩, fun y => absurd trivial y⟩
      have rd : ∀ k j, 0 ≤ k → k < 117 → j = k + 6 → E9 68 j = s.1 k := fun k j k0 k1 e => r9.at k0 k1 e
      refine vX12_act_0 66 x.1 a b c ⟨fun k => ⟨by rw [hK.k66], ?_⟩, fun k => ⟨by rw [hK.k66], ?_⟩, fun k => ⟨by rw [hK.k66], ?_⟩, fun k => ⟨by rw [hK.k66], ?_⟩⟩
      · have x3 : x.1 = 3 := by omega
        have ns : nSm false x.1 = 2 := by rw [x3]; decide
        rw [ha (by omega), hb (by omega)]
        have oa : oAct L mood bud x.1 s.1 (oVal x s) = sIndex s.1 (oVal x s 0) (oVal x s 1) := by unfold oAct; rw [if_neg (by omega), if_neg (by omega), if_neg (by omega)]
        refine r_indexNow hK hF9 p3.1 p3.2 (fun r r0 r1 => by rw [rd (6 + r) (12 + r) (by omega) (by omega) (by omega)]; exact (ci.2.2.2.1 r r0 r1).2.1.1) ?_
        rw [p1.1, ← oa]
        exact rres 4 _ _ (by rw [x3]; decide) (fun F10 E10 w10 d3 d4 hp => vX12_act_56 _ (aft F10 E10 _ w10 d3 d4 rfl hp))
      · have ns : nSm false x.1 = 3 := by rw [k]; decide
        rw [ha (by omega), hb (by omega), hc (by omega)]
        have oa : oAct L mood bud x.1 s.1 (oVal x s) = ((sCome s.1 L mood bud (oVal x s 0) (oVal x s 1) (oVal x s 2)).1, (sCome s.1 L mood bud (oVal x s 0) (oVal x s 1) (oVal x s 2)).2.1) := by unfold oAct; rw [if_pos k]
        refine r_comeNow (c := s.1) (L := L) (mood := mood) (bud := bud) hK hF9 p1.1 ci p6 (hl.congr p1.2) hlo (by rw [p1.2 5 (by decide)]; exact hm) m0 (by rw [p1.2 3 (by decide)]; exact hbu) p3 fun F10 E10 w10 ro lg _ => vX12_act_36 _ (aft F10 E10 _ ((w10.o lg).ru (w10.2.2 66 72 (by omega)) ro.2) (by rw [w10.2.2 66 68 (by omega)]; exact p4) (by rw [w10.2.2 66 69 (by omega)]; exact p5) (by rw [oa]) (fun y => ?_))
        rw [oa]
        rcases lg with ⟨_, l1, l2, _⟩ | ⟨q, _⟩
        · refine ⟨⟨ro.1, fun j hj => (ro.2 j hj).trans (p1.2 j hj)⟩, ?_, l1⟩
          rw [l2, p2, k]
          rfl
        · omega
      · have ns : nSm false x.1 = 1 := by rw [k]; decide
        rw [ha (by omega)]
        have oa : oAct L mood bud x.1 s.1 (oVal x s) = sStrike s.1 (oVal x s 0) := by unfold oAct; rw [if_neg (by omega), if_pos k]
        refine r_strikeNow hK hF9 p3.1 p3.2 (by rw [rd 0 6 (by decide) (by decide) (by decide)]; exact ci.1.2) ?_ (by rw [rd 0 6 (by decide) (by decide) (by decide)]; exact ci.1.1)
        rw [p1.1, ← oa]
        exact rres 2 _ _ (by rw [k]; decide) (fun F10 E10 w10 d3 d4 hp => vX12_act_42 _ (aft F10 E10 _ w10 d3 d4 rfl hp))
      · have ns : nSm false x.1 = 2 := by rw [k]; decide
        rw [ha (by omega), hb (by omega)]
        have oa : oAct L mood bud x.1 s.1 (oVal x s) = sWindow s.1 (oVal x s 0) (oVal x s 1) := by unfold oAct; rw [if_neg (by omega), if_neg (by omega), if_pos k]
        refine r_windowNow hK hF9 p3.1 p3.2 (fun r r0 r1 => by have := ci.2.2.2.1 r r0 r1; rw [rd (9 + r) (15 + r) (by omega) (by omega) (by omega)]; omega) ?_
        rw [p1.1, ← oa]
        exact rres 3 _ _ (by rw [k]; decide) (fun F10 E10 w10 d3 d4 hp => vX12_act_49 _ (aft F10 E10 _ w10 d3 d4 rfl hp))
    -- where a sum can't be reckoned, the others are passed over
    have offs : ∀ F' E' a b c, FrSm F6 E5 F' E' → F' 66 71 = 1 → ¬ oAllS x s → PW l G 9 mX12_run bg 134 [(0, (2, 66)), (1, (0, 10 * (N : Int))), (2, (0, a)), (3, (0, b))] [(0, c)] (n, K, F', E') Q := fun F' E' a b c w z na =>
      vX12_run_134 66 _ a b c ⟨by rw [hK.k66], fun y => absurd y (by omega), fun _ => off F' E' w z na⟩
    rw [← s0]
    refine r_sumI (x := x) (s := s) (e := e) n12 (by decide) (by decide) hK w7.2.1 (keep F7 E7 w7).2.2.2.2.2 (klk F7 E7 w7) ph (env F7 E7 w7) hw (Or.inl z7) (fun y F8 E8 v w8 z8 => ?_) (fun _ y8 v hv F8 E8 w8 z8 => ?_)
    · have na : ¬ oAllS x s := fun q => by
        rcases y with y | y
        · omega
        · exact q 0 (by decide) y.1 y.2
      have w78 := w7.trans w8
      refine vX12_run_117 66 _ v ⟨by omega, by rw [hK.k66], r_sumOff hK z8 (vX12_run_125 66 _ v (-1) ⟨by omega, by rw [hK.k66], r_sumOff hK z8 (offs F8 E8 _ _ _ w78 z8 na)⟩)⟩
    · have w78 := w7.trans w8
      refine vX12_run_117 66 _ v ⟨by omega, by rw [hK.k66], ?_⟩
      rw [← s1]
      refine r_sumI (x := x) (s := s) (e := e) n12 (by decide) (by decide) hK w8.2.1 (keep F8 E8 w78).2.2.2.2.2 (klk F8 E8 w78) ph (env F8 E8 w78) hw (Or.inl z8) (fun y F9 E9 v2 w9 z9 => ?_) (fun _ y9 v2 hv2 F9 E9 w9 z9 => ?_)
      · have na : ¬ oAllS x s := fun q => by
          rcases y with y | y
          · omega
          · exact q 1 (by decide) y.1 y.2
        refine vX12_run_125 66 _ v v2 ⟨by omega, by rw [hK.k66], r_sumOff hK z9 (offs F9 E9 _ _ _ (w78.trans w9) z9 na)⟩
      · have w79 := w78.trans w9
        refine vX12_run_125 66 _ v v2 ⟨by omega, by rw [hK.k66], ?_⟩
        rw [← s2]
        refine r_sumI (x := x) (s := s) (e := e) n12 (by decide) (by decide) hK w9.2.1 (keep F9 E9 w79).2.2.2.2.2 (klk F9 E9 w79) ph (env F9 E9 w79) hw (Or.inl z9) (fun y F10 E10 v3 w10 z10 => ?_) (fun _ y10 v3 hv3 F10 E10 w10 z10 => ?_)
        · have na : ¬ oAllS x s := fun q => by
            rcases y with y | y
            · omega
            · exact q 2 (by decide) y.1 y.2
          exact offs F10 E10 _ _ _ (w79.trans w10) z10 na
        · have ns : nSm false x.1 ≤ 3 := by unfold nSm; rw [if_neg (by decide)]; (repeat' split) <;> omega
          have al : oAllS x s := fun i i0 i1 => by
            have q : i = 0 ∨ i = 1 ∨ i = 2 := by omega
            rcases q with q | q | q <;> subst q
            · exact y8 i1
            · exact y9 i1
            · exact y10 i1
          exact act F10 E10 v v2 v3 (w79.trans w10) z10 al hv hv2 hv3
  have r6 := FrSm.refl (E := E5) hF6
  have z6 : F6 66 71 = 0 := by rw [f6, pUp_s]
  have kt := kl.2.2.2.1
  have kb := kl.2.2.1
  refine ⟨fun z => ⟨by omega, body F6 E5 r6 z6 ?_⟩, fun z => ?_⟩
  · unfold TsR at kt
    unfold tso
    cases q : x.2.2.1 with
    | none => trivial
    | some f =>
      rw [q] at kt
      have := kt.1
      omega
  · have tf : ∃ f, x.2.2.1 = some f := by
      unfold TsR at kt
      cases q : x.2.2.1 with
      | none => rw [q] at kt; exact absurd kt z
      | some f => exact ⟨f, rfl⟩
    obtain ⟨f, ef⟩ := tf
    rw [ef] at kt
    have tt := ht f ef
    have tsf : ∀ W, tso x.2.2.1 W ↔ f W = some 1 := fun W => by rw [ef]; exact Iff.rfl
    refine r_sumOf (a := 10 * (N : Int) + 5) (f := f) (W := wO s) (by omega) (by omega) hK hF6 z6 (by rw [g6 20 (by decide)]; exact q6) (by rw [n5 103 (by decide)]) (by rw [n5 103 (by decide), show 10 * (N : Int) + 5 + 1 = 10 * (N : Int) + 6 by omega]) kt.1 (by rw [n5 77 (by decide), n5 78 (by decide)]; exact kt.2) (env F6 E5 r6) hw tt.ok (fun y F7 E7 v w7 z7 => ?_) (fun v y F7 E7 w7 z7 => ?_)
    · refine vX12_run_96 66 _ v ⟨by rw [hK.k66], fun _ => hS s (oOne_no (fun q => by rw [tsf, y] at q; cases q)) F7 E7 (w6.trans w7.ru) (keep F7 E7 w7), fun q => absurd q (by omega)⟩
    · refine vX12_run_96 66 _ v ⟨by rw [hK.k66], fun q => absurd z7 q, fun _ => ⟨fun q => ⟨by omega, body F7 E7 w7 z7 ?_⟩, fun q => hS s (oOne_no (fun r => ?_)) F7 E7 (w6.trans w7.ru) (keep F7 E7 w7)⟩⟩
      · rw [tsf, y]
        rcases tt _ _ y with r | r
        · exact absurd r q
        · rw [r]
      · rw [tsf, y] at r
        injection r with r
        omega
end R
