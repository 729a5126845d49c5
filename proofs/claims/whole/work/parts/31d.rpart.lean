/-! THE REFERENCE READS a part that isn't a bracket -/
def oL (lw : Bool) : Int := if lw = true then 0 else 1
section B
variable {l : Launch} {G : pG} {bg : Nat × Nat} {n : Nat} {K : Int → Nat × Nat} {F E : Int → Int → Int} {Q : Option pV → pM → Prop} {lw : Bool} {tp : Int → Int} {len : Int} {T : Nat} {kd nm : Int → Int} {t p d c : Int} {L : List It}
theorem r_its {s : Int} {Qr : Option pV → pM → Prop} (hq : Qr = fun r μ => PW l G 4 mX12_readPart bg 102 [(0, (2, 66)), (1, (0, s))] (r.toList ++ []) μ Q) (hK : KS K) (hD : F 66 16 = 2 → s = -1 ∧ 0 ≤ F 66 17)
    (hA : ¬ F 66 16 = 2 → ¬ s = -1 → PC l G 3 mX12_leaf (0, 0) [(2, 66), (0, 1), (0, s), (0, 0)] (n, K, F, E) Qr) (hB : s = -1 → (¬ F 66 16 = 2 ∨ 1000 < F 66 17) → PC l G 3 mX12_leaf (0, 0) [(2, 66), (0, 0), (0, 0), (0, 0)] (n, K, F, E) Qr) (hC : s = -1 → F 66 16 = 2 → ¬ 1000 < F 66 17 → PC l G 3 mX12_leaf (0, 0) [(2, 66), (0, 1), (0, 0), (0, F 66 17)] (n, K, F, E) Qr) :
    PW l G 4 mX12_readPart bg 28 [(0, (2, 66))] [(0, s)] (n, K, F, E) Q ∧ PW l G 4 mX12_readPart bg 35 [(0, (2, 66))] [(0, s)] (n, K, F, E) Q := by
  subst hq
  have k66 : (K 66).1 = 12 := by rw [hK.k66]
  refine ⟨vX12_readPart_28 66 s ⟨k66, fun z => ⟨fun y => ⟨fun _ => hA z y, fun x => absurd x y⟩, fun y => ⟨fun x => absurd y x, fun _ => hB y (Or.inl z)⟩⟩, fun z => ?_⟩, vX12_readPart_35 66 s ⟨k66, fun z => ⟨fun y => ⟨fun _ => hA z y, fun x => absurd x y⟩, fun y => ⟨fun x => absurd y x, fun _ => hB y (Or.inl z)⟩⟩, fun z => ?_⟩⟩
  · obtain ⟨y, w⟩ := hD z
    exact ⟨fun v => ⟨fun x => absurd y x, fun _ => ⟨fun x => absurd y x, fun _ => hB y (Or.inr v)⟩⟩, fun v => ⟨fun x => absurd y x, fun _ => ⟨fun x => absurd y x, fun _ => ⟨by omega, hC y z v⟩⟩⟩⟩
  · obtain ⟨y, w⟩ := hD z
    exact ⟨fun v => ⟨fun x => absurd y x, fun _ => ⟨fun x => absurd y x, fun _ => hB y (Or.inr v)⟩⟩, fun v => ⟨fun x => absurd y x, fun _ => ⟨fun x => absurd y x, fun _ => ⟨by omega, hC y z v⟩⟩⟩⟩
theorem r_102F {s : Int} (hK : KS K) (h19 : F 66 19 = 1) (hQ : Q (some (0, 3)) (n, K, F, E)) : PW l G 4 mX12_readPart bg 102 [(0, (2, 66)), (1, (0, s))] [] (n, K, F, E) Q :=
  vX12_readPart_102 66 s ⟨by rw [hK.k66], fun _ => hQ, fun _ => ⟨fun _ => hQ, fun _ => ⟨fun _ => hQ, fun z => absurd z (by omega)⟩⟩⟩
theorem wkL_rng {j : Int} (j0 : 0 ≤ j) (j1 : j < 9) : (259 ≤ wkL j ∧ wkL j ≤ 267) ∧ lix (j + 1) = wkL j - 259 := by
  have q : j = 0 ∨ j = 1 ∨ j = 2 ∨ j = 3 ∨ j = 4 ∨ j = 5 ∨ j = 6 ∨ j = 7 ∨ j = 8 := by omega
  rcases q with e | e | e | e | e | e | e | e | e <;> subst e <;> decide
theorem wkL_no {k : Int} (h : ∀ j, 0 ≤ j → j < 9 → k ≠ wkL j) : ¬ (259 ≤ k ∧ k ≤ 267) := by
  have h0 := h 0 (by decide) (by decide)
  have h1 := h 1 (by decide) (by decide)
  have h2 := h 2 (by decide) (by decide)
  have h3 := h 3 (by decide) (by decide)
  have h4 := h 4 (by decide) (by decide)
  have h5 := h 5 (by decide) (by decide)
  have h6 := h 6 (by decide) (by decide)
  have h7 := h 7 (by decide) (by decide)
  have h8 := h 8 (by decide) (by decide)
  rw [show wkL 0 = 260 by decide] at h0
  rw [show wkL 1 = 261 by decide] at h1
  rw [show wkL 2 = 262 by decide] at h2
  rw [show wkL 3 = 263 by decide] at h3
  rw [show wkL 4 = 264 by decide] at h4
  rw [show wkL 5 = 259 by decide] at h5
  rw [show wkL 6 = 265 by decide] at h6
  rw [show wkL 7 = 267 by decide] at h7
  rw [show wkL 8 = 266 by decide] at h8
  omega
theorem wkO_no {k : Int} (h : ∀ j, 0 ≤ j → j < 7 → k ≠ wkO j) : k ≠ 272 ∧ k ≠ 259 ∧ ¬ (267 ≤ k ∧ k < 272) := by
  have h0 := h 0 (by decide) (by decide)
  have h1 := h 1 (by decide) (by decide)
  have h2 := h 2 (by decide) (by decide)
  have h3 := h 3 (by decide) (by decide)
  have h4 := h 4 (by decide) (by decide)
  have h5 := h 5 (by decide) (by decide)
  have h6 := h 6 (by decide) (by decide)
  rw [show wkO 0 = 267 by decide] at h0
  rw [show wkO 1 = 268 by decide] at h1
  rw [show wkO 2 = 269 by decide] at h2
  rw [show wkO 3 = 270 by decide] at h3
  rw [show wkO 4 = 271 by decide] at h4
  rw [show wkO 5 = 272 by decide] at h5
  rw [show wkO 6 = 259 by decide] at h6
  omega
/-- the number behind held or tickets -/
theorem r_number {b : Int} (b1 : b ≤ 1000) (hE : TkE tp len T kd nm) (h : RSt lw tp len T K F E t p d c L)
    (hQ0 : ¬ (kd t = 257 ∧ 0 ≤ nm t ∧ nm t ≤ b) → ∀ v, Q (some (0, v)) (n, K, pUp (pUp F 66 19 1) 66 18 (F 66 14), E)) (hQ1 : ∀ F', kd t = 257 → nm t ≤ b → FrT F F' → RSt lw tp len T K F' E (t + 1) p d c L → Q (some (0, nm t)) (n, K, F', E)) : PC l G 3 mX12_number bg [(2, 66), (1, 0), (1, b)] (n, K, F, E) Q := by
  have h' := h
  obtain ⟨⟨a1, a2, a3⟩, ⟨a4, a5⟩, a6, a7, ⟨a8, a9⟩, ⟨b1', b2, b3, b4⟩, b5, b6, b7⟩ := h'
  have dg := at_dig hE a6 a7.1 a7.2
  refine r_number_0 ⟨fun z => r_mustF a1 a8 (vX12_number_36 _ (hQ0 (fun y => ?_) _)), fun z => ?_⟩ a1
  · have q := dg.2 y.1
    have s := dg.1.mpr y.1
    rcases z with z | z
    · exact z s
    · omega
  · have k := dg.1.mp z.1
    have q := dg.2 k
    have tl := hE.lt a7.2 (by omega)
    have e : w32 (F 66 17) = nm t := by rw [w32_id (by omega) (by omega)]; omega
    refine r_mustT (by decide) a1 a2 hE a5 a4 a8 a6 a7.1 tl fun F' w at1 => vX12_number_36 _ ?_
    rw [e]
    have g : ∀ k, (k < 14 ∨ 17 < k) → F' 66 k = F 66 k := fun k hk => w.2 66 k (by omega)
    exact hQ1 F' k (by omega) w (h.mk' w.r at1 (by omega) (by rw [g 19 (by omega)]; exact a8) ⟨by rw [g 23 (by omega)]; exact b1', by rw [g 26 (by omega)]; exact b2, by rw [g 30 (by omega)]; exact b3, by rw [g 29 (by omega)]; exact b4⟩ b5 b6 (by omega))
theorem r_single (hE : TkE tp len T kd nm) (h : RSt lw tp len T K F E t p d c L) (z : kd t ≠ 91)
    (hF0 : ∀ v F' E' t', ((50 ≤ p ∧ t' = t) ∨ (p < 50 ∧ ∃ f, sg lw kd nm t = (false, t', f))) → FlR tp len F E t' F' E' → Q (some (0, v)) (n, K, F', E'))
    (hF1 : ∀ F' E' t' f, p < 50 → sg lw kd nm t = (true, t', f) → FrQ F E F' E' → (∀ j, j < c → E' 77 j = E 77 j ∧ E' 78 j = E 78 j) → RSt lw tp len T K F' E' t' (p + 1) d (c + 1) L → SegR (oL lw) (E' 77) (E' 78) c (c + 1) f 1 (nwL lw) → Q (some (0, 3)) (n, K, F', E')) : PC l G 4 mX12_readPart bg [(2, 66)] (n, K, F, E) Q := by
  have h' := h
  obtain ⟨⟨a1, a2, a3⟩, ⟨a4, a5⟩, a6, a7, ⟨a8, a9⟩, ⟨b1, b2, b3, b4⟩, b5, b6, b7⟩ := h'
  have dg := at_dig hE a6 a7.1 a7.2
  have sgn := at_sign (s := 91) hE a6 a7.1 a7.2 (by decide)
  have f19 : pUp (pUp F 66 19 1) 66 18 (F 66 14) 66 19 = 1 := by rw [pUp_k (by decide), pUp_s]
  have fl := h.fail hE
  -- it can't be, at the token itself
  have no : ∀ (s i o a : Int), (i = 0 ∨ 50 ≤ p) → (p < 50 → ∃ f, sg lw kd nm t = (false, t, f)) → PC l G 3 mX12_leaf (0, 0) [(2, 66), (0, i), (0, o), (0, a)] (n, K, F, E) (fun r μ => PW l G 4 mX12_readPart bg 102 [(0, (2, 66)), (1, (0, s))] (r.toList ++ []) μ Q) := by
    intro s i o a q1 q2
    refine r_leafF h q1 (r_102F a1 f19 (hF0 3 _ _ t ?_ fl))
    by_cases y : p < 50
    · exact Or.inr ⟨y, q2 y⟩
    · exact Or.inl ⟨by omega, rfl⟩
  have ag : ∀ (E1 : Int → Int → Int) (o a : Int), E1 77 = rUp (E 77) c o → E1 78 = rUp (E 78) c a → ∀ j, j < c → E1 77 j = E 77 j ∧ E1 78 j = E 78 j := fun E1 o a q1 q2 j hj => by
    rw [q1, q2, rUp_n (by omega), rUp_n (by omega)]; exact ⟨rfl, rfl⟩
  refine vX12_readPart_0 66 ⟨by rw [a1.k66], fun _ => ⟨fun y => ?_, fun y => ?_⟩, fun y => absurd (sgn.mp y) z⟩
  · have lt : lw = true := by
      cases lw with
      | true => rfl
      | false => rw [if_neg (by decide)] at a9; omega
    subst lt
    rw [if_pos rfl] at a9
    have sgl : kd t ≠ 257 → sg true kd nm t = if 259 ≤ kd t ∧ kd t ≤ 267 then (true, t + 1, pWrd (kd t - 259)) else (false, t, pZ) := fun w => by unfold sg; rw [if_neg w, if_pos rfl]
    refine vX12_partAt_0 66 (r_partAt_4 hE h 9 0 (-1) (by decide) (by decide) fun v hv => (r_its rfl a1 (fun w => ?_) (fun w1 w2 => ?_) (fun w1 w2 => ?_) (fun w1 w2 w3 => ?_)).2)
    · have k := dg.1.mp w
      refine ⟨?_, (dg.2 k).1⟩
      rcases hv with hv | ⟨j, j0, j1, j2, j3⟩
      · exact hv.1
      · have := wkL_rng j0 j1; omega
    · rcases hv with hv | ⟨j, j0, j1, j2, j3⟩
      · exact absurd hv.1 w2
      · have wr := wkL_rng j0 j1
        have k : kd t ≠ 257 := fun w => w1 (dg.1.mpr w)
        by_cases p5 : p < 50
        · have tl := hE.lt a7.2 (by omega)
          refine r_leafT hE h (by decide) p5 tl fun F1 E1 w q77 q78 st => ?_
          have s20 : F1 66 20 = 0 := by rw [w.2.2 66 20 (by omega)]; exact a9
          refine vX12_readPart_102 66 v ⟨by rw [a1.k66], fun _ => hF1 F1 E1 (t + 1) (pWrd (kd t - 259)) p5 (by rw [sgl k, if_pos (by omega)]) w (ag E1 _ _ q77 q78) st ?_, fun x => absurd s20 x⟩
          have sw := segR_word (nw := nwL true) (op := E1 77) (ar := E1 78) (a := c) (i := v) (by rw [q77, rUp_s]) (by omega) (by omega)
          rw [j3, wr.2, ← j2] at sw
          exact sw
        · exact no v _ _ _ (Or.inr (by omega)) (fun x => absurd x p5)
    · refine no v _ _ _ (Or.inl rfl) fun _ => ⟨pZ, ?_⟩
      rcases w2 with w2 | w2
      · have k : kd t ≠ 257 := fun w => w2 (dg.1.mpr w)
        rcases hv with hv | ⟨j, j0, j1, j2, j3⟩
        · rw [sgl k, if_neg (wkL_no hv.2)]
        · omega
      · by_cases k : kd t = 257
        · have q := dg.2 k
          unfold sg
          rw [if_pos k, if_neg (by omega)]
        · rcases hv with hv | ⟨j, j0, j1, j2, j3⟩
          · rw [sgl k, if_neg (wkL_no hv.2)]
          · omega
    · have k := dg.1.mp w2
      have q := dg.2 k
      by_cases p5 : p < 50
      · have tl := hE.lt a7.2 (by omega)
        refine r_leafT hE h (by decide) p5 tl fun F1 E1 w q77 q78 st => ?_
        have s20 : F1 66 20 = 0 := by rw [w.2.2 66 20 (by omega)]; exact a9
        refine vX12_readPart_102 66 v ⟨by rw [a1.k66], fun _ => hF1 F1 E1 (t + 1) (pNum (nm t)) p5 (by unfold sg; rw [if_pos k, if_pos (by omega)]) w (ag E1 _ _ q77 q78) st ?_, fun x => absurd s20 x⟩
        exact segR_num (by rw [q77, rUp_s]) (by rw [q78, rUp_s]; omega)
      · exact no v _ _ _ (Or.inr (by omega)) (fun x => absurd x p5)
  · have lf : lw = false := by
      cases lw with
      | true => rw [if_pos rfl] at a9; omega
      | false => rfl
    subst lf
    rw [if_neg (by decide)] at a9
    refine vX12_orderPartAt_0 66 (r_orderPartAt_4 hE h 7 0 (-1) (by decide) (by decide) fun v hv => (r_its rfl a1 (fun w => ?_) (fun w1 w2 => ?_) (fun w1 w2 => ?_) (fun w1 w2 w3 => ?_)).1)
    · have k := dg.1.mp w
      refine ⟨?_, (dg.2 k).1⟩
      rcases hv with hv | ⟨j, j0, j1, j2, j3⟩
      · exact hv.1
      · unfold wkO at j2; split at j2 <;> omega
    · rcases hv with hv | ⟨j, j0, j1, j2, j3⟩
      · exact absurd hv.1 w2
      · have k : kd t ≠ 257 := fun w => w1 (dg.1.mpr w)
        have kr : (j < 5 ∧ kd t = 267 + j) ∨ (j = 5 ∧ kd t = 272) ∨ (j = 6 ∧ kd t = 259) := by unfold wkO at j2; split at j2 <;> omega
        by_cases p5 : p < 50
        · have tl := hE.lt a7.2 (by omega)
          refine r_leafT hE h (by decide) p5 tl fun F1 E1 w q77 q78 st => ?_
          have s20 : F1 66 20 = 1 := by rw [w.2.2 66 20 (by omega)]; exact a9
          have st' := st
          obtain ⟨⟨c1, c2, c3⟩, ⟨c4, c5⟩, c6, c7, ⟨c8, c9⟩, ⟨d1, d2, d3, d4⟩, d5, d6, d7⟩ := st'
          refine vX12_readPart_102 66 v ⟨by rw [a1.k66], fun x => absurd x (by omega), fun _ => ⟨fun x => ?_, fun x => ⟨fun y => absurd c8 y, fun _ => ?_⟩⟩⟩
          · have k5 : j < 5 ∧ kd t = 267 + j := by omega
            refine hF1 F1 E1 (t + 1) (pWrd (kd t - 267)) p5 (by unfold sg; rw [if_neg k, if_neg (by decide), if_neg (by omega), if_neg (by omega), if_pos (by omega)]) w (ag E1 _ _ q77 q78) st ?_
            exact segR_oword (i := v) (r := 0) (j := kd t - 267) (by rw [q77, rUp_s]) (by rw [q78, rUp_s]) (Or.inl ⟨by omega, by omega, by omega⟩)
          · -- a number behind it
            have nb : ∀ b jj : Int, (v = 6 ∧ b = 2 ∧ jj = 5) ∨ (v = 7 ∧ b = 3 ∧ jj = 8) → PC l G 3 mX12_number (0, 0) [(2, 66), (1, 0), (1, b)] (n, K, F1, E1) (fun r μ => PW l G 4 mX12_readPart bg 154 [] (r.toList ++ [(0, (F1 66 23) - 1), (2, F1 66 25)]) μ Q) := by
              intro b jj hb
              have sgv : ∀ q, sg false kd nm t = q ↔ (if kd (t + 1) = 257 ∧ nm (t + 1) ≤ b then (true, t + 2, pWrd (nm (t + 1) + jj)) else (false, t + 1, pZ)) = q := fun q => by
                unfold sg
                rw [if_neg k, if_neg (by decide)]
                rcases hb with ⟨e1, e2, e3⟩ | ⟨e1, e2, e3⟩
                · rw [if_pos (by omega), e2, e3]
                · rw [if_neg (by omega), if_pos (by omega), e2, e3]
              have np : kd (t + 1) = 257 → 0 ≤ nm (t + 1) := fun e => by
                have q := (at_dig hE c6 c7.1 c7.2).2 e
                omega
              have f54 : ∀ (F2 E2 : Int → Int → Int) (s : Int), FS F2 → (∀ E3, E3 = pUp E2 78 c s → Q (some (0, 3)) (n, K, F2, E3)) → PW l G 4 mX12_readPart bg 154 [] [(0, s), (0, F1 66 23 - 1), (2, F1 66 25)] (n, K, F2, E2) Q := by
                intro F2 E2 s hF2 hh
                have hl := hE.1
                have hT := hE.2.2.1.2
                have ep := em_pos L
                refine vX12_readPart_154 _ _ _ ?_
                rw [c2.f66_25, d1, show c + 1 - 1 = c by omega]
                exact ⟨by decide, by rw [a1.k78], by rw [a1.k78]; exact ⟨by omega, by show c < 400; omega⟩, hh⟩
              refine r_number (by omega) hE st (fun w5 s => f54 _ _ s (st.fail hE).1.2.1 fun E3 e3 => ?_) (fun F2 w5 w6 w7 st2 => f54 _ _ _ st2.1.2.1 fun E3 e3 => ?_)
              · have f2 := (st.fail hE).pre w
                refine hF0 3 _ _ (t + 1) (Or.inr ⟨p5, pZ, (sgv _).mpr (by rw [if_neg (fun y => w5 ⟨y.1, np y.1, y.2⟩)])⟩) ?_
                obtain ⟨g1, g2, g3, L', g4, g5⟩ := f2
                rw [e3]
                exact ⟨g1.row (by omega), g2, g3, L', PileM.congr L' g4 fun j _ => by rw [pUp_an (by decide), pUp_an (by decide)]; exact ⟨rfl, rfl⟩, g5⟩
              · have wr : FrQ F E F2 E3 := by rw [e3]; exact (w.trans w7.r).row (by omega)
                obtain ⟨_, _, m6, m7, ⟨m8, m9⟩, m10, m11, m12, m13⟩ := st2
                have r77 : E3 77 = rUp (E 77) c v := by rw [e3, pUp_an (by decide)]; exact q77
                have r78 : E3 78 = rUp (E1 78) c (nm (t + 1)) := by rw [e3, pUp_row, pRow1, if_pos rfl]
                refine hF1 F2 E3 (t + 2) (pWrd (nm (t + 1) + jj)) p5 ((sgv _).mpr (by rw [if_pos ⟨w5, w6⟩])) wr (fun j hj => ?_) ?_ ?_
                · rw [r77, r78, q78, rUp_n (by omega), rUp_n (by omega), rUp_n (by omega)]; exact ⟨rfl, rfl⟩
                · have e2 : t + 1 + 1 = t + 2 := by omega
                  rw [e2] at m6 m7 m13
                  exact h.mk' wr m6 m7 m8 m10 m11 (PileM.congr L m12 fun j _ => by rw [e3, pUp_an (by decide), pUp_an (by decide)]; exact ⟨rfl, rfl⟩) m13
                · have n0 := np w5
                  refine segR_oword (i := v) (r := nm (t + 1)) (j := nm (t + 1) + jj) (by rw [r77, rUp_s]) (by rw [r78, rUp_s]) ?_
                  rcases hb with ⟨e1, e2, e3⟩ | ⟨e1, e2, e3⟩
                  · exact Or.inr (Or.inl ⟨e1, n0, by omega, by omega⟩)
                  · exact Or.inr (Or.inr ⟨e1, n0, by omega, by omega⟩)
            have hl := hE.1
            have hT := hE.2.2.1.2
            have ep := em_pos L
            exact ⟨by rw [d1]; omega, fun x6 => nb 3 8 (Or.inr ⟨by omega, rfl, rfl⟩), fun x6 => nb 2 5 (Or.inl ⟨x6, rfl, rfl⟩)⟩
        · exact no v _ _ _ (Or.inr (by omega)) (fun x => absurd x p5)
    · refine no v _ _ _ (Or.inl rfl) fun _ => ⟨pZ, ?_⟩
      by_cases k : kd t = 257
      · rcases w2 with w2 | w2
        · exact absurd (dg.1.mpr k) w2
        · have q := dg.2 k
          unfold sg
          rw [if_pos k, if_neg (by omega)]
      · rcases hv with hv | ⟨j, j0, j1, j2, j3⟩
        · have y := wkO_no hv.2
          unfold sg
          rw [if_neg k, if_neg (by decide), if_neg y.1, if_neg y.2.1, if_neg y.2.2]
        · omega
    · have k := dg.1.mp w2
      have q := dg.2 k
      by_cases p5 : p < 50
      · have tl := hE.lt a7.2 (by omega)
        refine r_leafT hE h (by decide) p5 tl fun F1 E1 w q77 q78 st => ?_
        have s20 : F1 66 20 = 1 := by rw [w.2.2 66 20 (by omega)]; exact a9
        refine vX12_readPart_102 66 v ⟨by rw [a1.k66], fun x => absurd x (by omega), fun _ => ⟨fun _ => hF1 F1 E1 (t + 1) (pNum (nm t)) p5 (by unfold sg; rw [if_pos k, if_pos (by omega)]) w (ag E1 _ _ q77 q78) st ?_, fun x => absurd x (by omega)⟩⟩
        exact segR_num (by rw [q77, rUp_s]) (by rw [q78, rUp_s]; omega)
      · exact no v _ _ _ (Or.inr (by omega)) (fun x => absurd x p5)
end B
