/-! CLAUSES in the class -/
def KlC (lw : Bool) (rows code : Int → Int) (len c : Int) (x : tKl) : Prop :=
  rows (c * 6 + 0) = x.1 ∧ rows (c * 6 + 1) = x.2.1 ∧ TsC rows code len (c * 6 + 2) x.2.2.1 (nwL lw) ∧ ∀ i, 0 ≤ i → i < 3 → (i < nSm lw x.1 → Cd code len (rows (c * 6 + (3 + i))) (x.2.2.2 i) (nwL lw) ∧ PhOk (x.2.2.2 i) (nwL lw)) ∧ (nSm lw x.1 ≤ i → rows (c * 6 + (3 + i)) = -1)
theorem TsC.grow {rows rows' code code' : Int → Int} {len len' a nw : Int} {ts : Option tPhi} (h : TsC rows code len a ts nw) (r : rows' a = rows a) (e : ∀ j, j < len → code' j = code j) (h1 : len ≤ len') (h2 : len' ≤ 1000) : TsC rows' code' len' a ts nw := by
  unfold TsC at *
  cases ts with
  | none => exact r.trans h
  | some f =>
    dsimp only at *
    rw [r]
    exact ⟨h.1, h.2.1.grow e h1 h2, h.2.2⟩
theorem KlC.grow {lw : Bool} {rows rows' code code' : Int → Int} {len len' c : Int} {x : tKl} (h : KlC lw rows code len c x) (r : ∀ j, c * 6 ≤ j → j < (c + 1) * 6 → rows' j = rows j) (e : ∀ j, j < len → code' j = code j) (h1 : len ≤ len') (h2 : len' ≤ 1000) : KlC lw rows' code' len' c x := by
  obtain ⟨a1, a2, a3, a4⟩ := h
  refine ⟨(r _ (by omega) (by omega)).trans a1, (r _ (by omega) (by omega)).trans a2, a3.grow (r _ (by omega) (by omega)) e h1 h2, fun i i0 i3 => ?_⟩
  rw [r _ (by omega) (by omega)]
  exact ⟨fun z => ⟨((a4 i i0 i3).1 z).1.grow e h1 h2, ((a4 i i0 i3).1 z).2⟩, (a4 i i0 i3).2⟩
/-- a clause under way -/
def Wip (lw : Bool) (T c k tm i : Int) (fs : Int → tPhi) (F0 E0 : Int → Int → Int) (t p : Int) (K : Int → Nat × Nat) (F E : Int → Int → Int) : Prop :=
  PreX lw T t p K F E ∧ (F 27 2 = c + 1 ∧ 0 ≤ c ∧ c ≤ 11) ∧ FrX F0 E0 F E ∧ (∀ j, j < c * 6 → E 28 j = E0 28 j) ∧ (E 28 (c * 6 + 0) = k ∧ E 28 (c * 6 + 1) = tm ∧ E 28 (c * 6 + 2) = -1) ∧ ∀ i', 0 ≤ i' → i' < 3 → (i' < i → Cd (E 29) (F 27 3) (E 28 (c * 6 + (3 + i'))) (fs i') (nwL lw) ∧ PhOk (fs i') (nwL lw)) ∧ (i ≤ i' → E 28 (c * 6 + (3 + i')) = -1)
section C
variable {l : Launch} {G : pG} {bg : Nat × Nat} {n : Nat} {K : Int → Nat × Nat} {F E F0 E0 : Int → Int → Int} {Q : Option pV → pM → Prop} {lw : Bool} {T t p c k tm i : Int} {fs : Int → tPhi}
theorem c_whole (i0 : 0 ≤ i) (i3 : i < 3) (h : Wip lw T c k tm i fs F0 E0 t p K F E) (z : F 27 3 + 2 ≤ 2 * t)
    (hQ0 : ∀ F' E' t' p1 f, FrX F0 E0 F' E' → F' 20 4 = t' → t ≤ t' → t' ≤ T → Gr lw (E0 24) (E0 26) 3 0 t p pZ false t' p1 f → Q (some (0, 0)) (n, K, F', E'))
    (hQ1 : ∀ F' E' t' p' f, Gr lw (E0 24) (E0 26) 3 0 t p pZ true t' p' f → t < t' → (∀ fs', fs' i = f → (∀ j, 0 ≤ j → j < i → fs' j = fs j) → Wip lw T c k tm (i + 1) fs' F0 E0 t' p' K F' E') → Q (some (0, 1)) (n, K, F', E')) : PC l G 61 mX5_readWhole bg [(2, 20), (0, i)] (n, K, F, E) Q := by
  obtain ⟨h1, ⟨h2, c0, c11⟩, h3, h4, ⟨h5, h6, h7⟩, h8⟩ := h
  have r24 : E 24 = E0 24 := h3.e.1
  have r26 : E 26 = E0 26 := h3.e.2.1
  refine c_readWhole i0 i3 (h1.l z) (by omega) (by omega) (fun F' E' t' p1 f w b4 b1 b2 g => ?_) (fun F' E' t' p' f w b2 e28 px tt pp cd ph g => ?_)
  · rw [r24, r26] at g
    exact hQ0 F' E' t' p1 f (h3.trans w) b4 b1 b2 g
  · rw [r24, r26] at g
    refine hQ1 F' E' t' p' f g tt fun fs' f1 f2 => ?_
    rw [h2, show c + 1 - 1 = c by omega] at e28
    have w5 := w.2.2.2.2
    have px' := px
    obtain ⟨_, _, ⟨_, _, tT, T4⟩, _, _, _, lt⟩ := px'
    refine ⟨px, ⟨by omega, c0, c11⟩, h3.trans w, fun j hj => ?_, ⟨?_, ?_, ?_⟩, fun i' a0 a3 => ⟨fun y => ?_, fun y => ?_⟩⟩
    · rw [e28, rUp_n (by omega)]; exact h4 j hj
    · rw [e28, rUp_n (by omega)]; exact h5
    · rw [e28, rUp_n (by omega)]; exact h6
    · rw [e28, rUp_n (by omega)]; exact h7
    · by_cases q : i' = i
      · subst q
        rw [e28, rUp_s, f1]
        exact ⟨cd, ph⟩
      · rw [e28, rUp_n (by omega), f2 i' a0 (by omega)]
        have u := (h8 i' a0 a3).1 (by omega)
        exact ⟨u.1.grow w.2.2.2.1 w5 (by omega), u.2⟩
    · rw [e28, rUp_n (by omega)]
      exact (h8 i' a0 a3).2 (by omega)
theorem c_wskip {w : Int} (hw : w ≠ 256) (h : Wip lw T c k tm i fs F0 E0 t p K F E) (hQ0 : E0 24 t ≠ w → Q (some (0, 0)) (n, K, F, E))
    (hQ1 : ∀ F', E0 24 t = w → F' 27 3 + 2 ≤ 2 * (t + 1) → Wip lw T c k tm i fs F0 E0 (t + 1) p K F' E → Q (some (0, 1)) (n, K, F', E)) : PC l G 0 mX5_skip bg [(2, 20), (0, w)] (n, K, F, E) Q := by
  have h' := h
  obtain ⟨h1, ⟨h2, c0, c11⟩, h3, h4, h5, h8⟩ := h'
  have r24 : E 24 = E0 24 := h3.e.1
  refine c_skipX h1 hw (fun z => hQ0 (by rw [← r24]; exact z)) (fun z => ?_)
  have tl := h1.lt (by omega)
  obtain ⟨⟨hK, hF⟩, g2, ⟨g4, t0, t1, T1⟩, ⟨g3, p0, p1⟩, _, l0, l1⟩ := id h1
  have al : pUp F 20 4 (t + 1) 27 3 = F 27 3 := by rw [pUp_a (by decide)]
  refine hQ1 _ (by rw [← r24]; exact z) (by omega) ⟨h1.next ((FrX.refl hF).at (Or.inr rfl)) pUp_s (by rw [pUp_k (by decide)]; exact g3) (by omega) ⟨p0, p1⟩ (by omega), ⟨by rw [pUp_a (by decide)]; exact h2, c0, c11⟩, h3.at (Or.inr rfl), h4, h5, ?_⟩
  rw [al]
  exact h8
theorem mvL0 : mvL false 0 = [(0, 0), (1, 279), (0, 1), (1, 284), (0, 2)] := by decide
theorem mvL1 : mvL false 1 = [(0, 0)] := by decide
theorem mvL2 {k : Int} (h : k = 2 ∨ k = 3) : mvL false k = [(0, 0), (1, 280), (0, 1)] := by
  rcases h with e | e <;> subst e <;> decide
section M
variable {kd nm : Int → Int} {L : List (Int × Int)} {ok : Bool} {t' p' : Int}
theorem mg_s0 {j p1 : Int} {f : tPhi} (h : Gr lw kd nm 3 0 t p pZ false t' p1 f) : MG lw kd nm ((0, j) :: L) t p false t' p' fs := Or.inl ⟨rfl, Or.inl ⟨rfl, p1, f, h⟩⟩
theorem mg_s1 {j t1 p1 : Int} (h : Gr lw kd nm 3 0 t p pZ true t1 p1 (fs j)) (h2 : MG lw kd nm L t1 p1 ok t' p' fs) : MG lw kd nm ((0, j) :: L) t p ok t' p' fs := Or.inl ⟨rfl, Or.inr ⟨t1, p1, h, h2⟩⟩
theorem mg_w0 {w : Int} (h : kd t ≠ w) : MG lw kd nm ((1, w) :: L) t p false t p' fs := Or.inr ⟨rfl, Or.inl ⟨h, rfl, rfl⟩⟩
theorem mg_w1 {w : Int} (h : kd t = w) (h2 : MG lw kd nm L (t + 1) p ok t' p' fs) : MG lw kd nm ((1, w) :: L) t p ok t' p' fs := Or.inr ⟨rfl, Or.inr ⟨h, h2⟩⟩
theorem mg_n : MG lw kd nm [] t p true t p fs := ⟨rfl, rfl, rfl⟩
end M
def sF (f0 f1 f2 : tPhi) : Int → tPhi := fun j => if j = 0 then f0 else if j = 1 then f1 else f2
/-- behind an order's sums -/
theorem c_times {E1 : Int → Int → Int} (hw : Wip false T c k 1 i fs F0 E0 t p K F E1)
    (hQ0 : ∀ F' E' t' n', FrX F0 E0 F' E' → F' 20 4 = t' → t ≤ t' → t' ≤ T → TmG false (E0 24) (E0 26) t false t' n' → Q (some (0, 0)) (n, K, F', E'))
    (hQ1 : ∀ F' E' t' tm, t ≤ t' → TmG false (E0 24) (E0 26) t true t' tm → Wip false T c k tm i fs F0 E0 t' p K F' E' → Q (some (0, 1)) (n, K, F', E')) : PC l G 0 mX5_skip (0, 0) [(2, 20), (0, 281)] (n, K, F, E1) (fun r μ => PW l G 62 mX5_readOrder bg 89 [(0, (2, 20))] (r.toList ++ []) μ Q) := by
  refine c_wskip (by decide) hw (fun z => ?_) (fun F2 z _ hw2 => ?_)
  · exact vX5_readOrder_89 20 0 ⟨fun y => absurd rfl y, fun _ => hQ1 F E1 t 1 (by omega) (Or.inl ⟨Or.inr z, rfl, rfl, rfl⟩) hw⟩
  · have hw2' := hw2
    obtain ⟨h1, ⟨h2, c0, c11⟩, h3, h4, ⟨h5, h6, h7⟩, h8⟩ := hw2'
    obtain ⟨⟨hK, hF⟩, g2, ⟨g4, t0, t1, T1⟩, ⟨g3, p0, p1⟩, ⟨hT, hn⟩, l0, l1⟩ := id h1
    have r24 : E1 24 = E0 24 := h3.e.1
    have r26 : E1 26 = E0 26 := h3.e.2.1
    refine vX5_readOrder_89 20 1 ⟨fun _ => ⟨by rw [hK.k20], c_numberTo hK hF g4 (by omega) (by omega) ?_⟩, fun y => absurd y (by decide)⟩
    by_cases y : E0 24 (t + 1) = 257 ∧ E0 26 (t + 1) ≤ 20
    · rw [r24, r26, if_pos y]
      have tl : t + 1 < T := h1.lt (by rw [r24]; omega)
      refine vX5_readOrder_100 20 _ ⟨fun x => ?_, fun x => ?_⟩
      · simp only [hF.f20_1, hF.f27_0, hK.k20, hK.k27, hK.k28, g4, h2]
        refine ⟨trivial, by omega, fun F3 f3 => ⟨trivial, by omega, by omega, by omega, by decide, trivial, by omega, fun E4 e4 => ?_⟩⟩
        have al : F3 27 3 = F2 27 3 := by rw [f3, pUp_a (by decide)]
        rw [show c + 1 - 1 = c by omega] at e4
        have e28 : E4 28 = rUp (E1 28) (c * 6 + 1) (E0 26 (t + 1)) := by rw [e4, pUp_row, pRow1, if_pos rfl]
        have e29 : E4 29 = E1 29 := by rw [e4, pUp_an (by decide)]
        have wf : FrX F2 E1 F3 E4 := by rw [f3, e4]; exact ((FrX.refl hF).at (Or.inr rfl)).row
        refine hQ1 F3 E4 (t + 2) (E0 26 (t + 1)) (by omega) (Or.inr ⟨rfl, z, Or.inl ⟨rfl, rfl, rfl, y.1, x, y.2⟩⟩) ⟨h1.next wf (by rw [f3, pUp_s]; omega) (by rw [f3, pUp_k (by decide)]; exact g3) (by omega) ⟨p0, p1⟩ (by omega), ⟨by rw [f3, pUp_a (by decide)]; exact h2, c0, c11⟩, h3.trans wf, fun j hj => ?_, ⟨?_, ?_, ?_⟩, fun i' a0 a3 => ?_⟩
        · rw [e28, rUp_n (by omega)]; exact h4 j hj
        · rw [e28, rUp_n (by omega)]; exact h5
        · rw [e28, rUp_s]
        · rw [e28, rUp_n (by omega)]; exact h7
        · rw [al, e29, e28, rUp_n (by omega)]
          exact h8 i' a0 a3
      · exact hQ0 F2 E1 (t + 1) 1 h3 g4 (by omega) t1 (Or.inr ⟨rfl, z, Or.inr ⟨rfl, rfl, fun w => x w.2.1⟩⟩)
    · rw [r24, r26, if_neg y]
      exact vX5_readOrder_100 20 _ ⟨fun x => absurd x (by decide), fun _ => hQ0 F2 E1 (t + 1) 1 h3 g4 (by omega) t1 (Or.inr ⟨rfl, z, Or.inr ⟨rfl, rfl, fun w => y ⟨w.1, w.2.2⟩⟩⟩)⟩
theorem c_readOrder (hk : k = 0 ∨ k = 1 ∨ k = 2 ∨ k = 3) (hw : Wip false T c k 1 0 fs F0 E0 t p K F E) (z : F 27 3 + 2 ≤ 2 * t)
    (hQ0 : ∀ F' E' t', FrX F0 E0 F' E' → F' 20 4 = t' → t ≤ t' → t' ≤ T → ((∃ p1 fs', MG false (E0 24) (E0 26) (mvL false k) t p false t' p1 fs') ∨ ∃ t1 p1 fs' n', MG false (E0 24) (E0 26) (mvL false k) t p true t1 p1 fs' ∧ TmG false (E0 24) (E0 26) t1 false t' n') → Q (some (0, 0)) (n, K, F', E'))
    (hQ1 : ∀ F' E' t' p1 fs' tm t1, t ≤ t' → MG false (E0 24) (E0 26) (mvL false k) t p true t1 p1 fs' → TmG false (E0 24) (E0 26) t1 true t' tm → Wip false T c k tm (nSm false k) fs' F0 E0 t' p1 K F' E' → Q (some (0, 1)) (n, K, F', E')) : PC l G 62 mX5_readOrder bg [(2, 20), (0, k)] (n, K, F, E) Q := by
  have hK := hw.1.1.1
  refine vX5_readOrder_0 20 k ⟨by rw [hK.k20], c_whole (by decide) (by decide) hw z (fun F1 E1 t1 p1 f w b4 b1 b2 g => ?_) (fun F1 E1 t1 p1 f g tt hw1 => ?_)⟩
  · refine vX5_readOrder_5 20 k 0 ⟨fun y => absurd rfl y, fun _ => hQ0 F1 E1 t1 w b4 b1 b2 (Or.inl ⟨p1, fs, ?_⟩)⟩
    rcases hk with e | e | e | e
    · rw [e, mvL0]; exact mg_s0 g
    · rw [e, mvL1]; exact mg_s0 g
    · rw [mvL2 (Or.inl e)]; exact mg_s0 g
    · rw [mvL2 (Or.inr e)]; exact mg_s0 g
  · -- the sums that there are, and what is behind them
    have fin : ∀ (F2 E2 : Int → Int → Int) (t2 p2 : Int) (gs : Int → tPhi), t ≤ t2 → MG false (E0 24) (E0 26) (mvL false k) t p true t2 p2 gs → Wip false T c k 1 (nSm false k) gs F0 E0 t2 p2 K F2 E2 → PC l G 0 mX5_skip (0, 0) [(2, 20), (0, 281)] (n, K, F2, E2) (fun r μ => PW l G 62 mX5_readOrder bg 89 [(0, (2, 20))] (r.toList ++ []) μ Q) := by
      intro F2 E2 t2 p2 gs tl mg hw2
      exact c_times hw2 (fun F' E' t' n' w b4 b1 b2 g' => hQ0 F' E' t' w b4 (by omega) b2 (Or.inr ⟨t2, p2, gs, n', mg, g'⟩)) (fun F' E' t' tm b1 g' w => hQ1 F' E' t' p2 gs tm t2 (by omega) mg g' w)
    -- two sums
    have two : (k = 2 ∨ k = 3) → PC l G 0 mX5_skip (0, 0) [(2, 20), (0, 280)] (n, K, F1, E1) (fun r μ => PW l G 62 mX5_readOrder bg 69 [(0, (2, 20))] (r.toList ++ []) μ Q) := by
      intro k2
      have v1 := hw1 (sF f pZ pZ) rfl (fun j _ j0 => absurd j0 (by omega))
    -- (the first sum stands)
      have fr := v1.2.2.1
      have a4 := v1.1.2.2.1
      refine c_wskip (by decide) v1 (fun y => ?_) (fun F2 y l2 w2 => ?_)
      · exact vX5_readOrder_69 20 0 ⟨fun _ => hQ0 F1 E1 t1 fr a4.1 (by omega) a4.2.2.1 (Or.inl ⟨p1, sF f pZ pZ, by rw [mvL2 k2]; exact mg_s1 g (mg_w0 y)⟩), fun x => absurd rfl x⟩
      · refine vX5_readOrder_69 20 1 ⟨fun x => absurd x (by decide), fun _ => ⟨by rw [hK.k20], c_whole (by decide) (by decide) w2 l2 (fun F3 E3 t3 p3 f3 w b4 b1 b2 g3 => ?_) (fun F3 E3 t3 p3 f3 g3 tt3 hw3 => ?_)⟩⟩
        · exact vX5_readOrder_77 20 0 ⟨fun x => absurd rfl x, fun _ => hQ0 F3 E3 t3 w b4 (by omega) b2 (Or.inl ⟨p3, sF f pZ pZ, by rw [mvL2 k2]; exact mg_s1 g (mg_w1 y (mg_s0 g3))⟩)⟩
        · refine vX5_readOrder_77 20 1 ⟨fun _ => ⟨by rw [hK.k20], fin F3 E3 t3 p3 (sF f f3 pZ) (by omega) (by rw [mvL2 k2]; exact mg_s1 g (mg_w1 y (mg_s1 g3 mg_n))) ?_⟩, fun x => absurd x (by decide)⟩
          have v3 := hw3 (sF f f3 pZ) rfl (fun j j9 j0 => by
            unfold sF
            by_cases q : j = 0
            · rw [if_pos q, if_pos q]
            · rw [if_neg q, if_neg (by omega), if_neg q, if_neg (by omega)])
          rw [show nSm false k = 1 + 1 by rcases k2 with e | e <;> subst e <;> decide]
          exact v3
    refine vX5_readOrder_5 20 k 1 ⟨fun _ => ⟨fun k0 => ⟨fun k2 => ⟨by rw [hK.k20], two (Or.inl k2)⟩, fun k2 => ⟨fun k3 => ⟨by rw [hK.k20], ?_⟩, fun k3 => ⟨by rw [hK.k20], two (Or.inr k3)⟩⟩⟩, fun k0 => ⟨by rw [hK.k20], ?_⟩⟩, fun x => absurd x (by decide)⟩
    · have k1 : k = 1 := by omega
      refine fin F1 E1 t1 p1 (sF f pZ pZ) (by omega) (by rw [k1, mvL1]; exact mg_s1 g mg_n) ?_
      have v1 := hw1 (sF f pZ pZ) rfl (fun j _ j0 => absurd j0 (by omega))
      rw [show nSm false k = 0 + 1 by rw [k1]; decide]
      exact v1
    · subst k0
      have v1 := hw1 (sF f pZ pZ) rfl (fun j _ j0 => absurd j0 (by omega))
      have fr := v1.2.2.1
      have a4 := v1.1.2.2.1
      refine c_wskip (by decide) v1 (fun y => ?_) (fun F2 y l2 w2 => ?_)
      · exact vX5_readOrder_21 20 0 0 ⟨fun _ => hQ0 F1 E1 t1 fr a4.1 (by omega) a4.2.2.1 (Or.inl ⟨p1, sF f pZ pZ, by rw [mvL0]; exact mg_s1 g (mg_w0 y)⟩), fun x => absurd rfl x⟩
      · refine vX5_readOrder_21 20 0 1 ⟨fun x => absurd x (by decide), fun _ => ⟨by rw [hK.k20], c_whole (by decide) (by decide) w2 l2 (fun F3 E3 t3 p3 f3 w b4 b1 b2 g3 => ?_) (fun F3 E3 t3 p3 f3 g3 tt3 hw3 => ?_)⟩⟩
        · exact vX5_readOrder_29 20 0 0 ⟨fun _ => hQ0 F3 E3 t3 w b4 (by omega) b2 (Or.inl ⟨p3, sF f pZ pZ, by rw [mvL0]; exact mg_s1 g (mg_w1 y (mg_s0 g3))⟩), fun x => absurd rfl x⟩
        · have v3 := hw3 (sF f f3 pZ) rfl (fun j j9 j0 => by
            unfold sF
            by_cases q : j = 0
            · rw [if_pos q, if_pos q]
            · rw [if_neg q, if_neg (by omega), if_neg q, if_neg (by omega)])
          have fr3 := v3.2.2.1
          have a43 := v3.1.2.2.1
          refine vX5_readOrder_29 20 0 1 ⟨fun x => absurd x (by decide), fun _ => ⟨by rw [hK.k20], c_wskip (by decide) v3 (fun y3 => ?_) (fun F4 y3 l4 w4 => ?_)⟩⟩
          · exact vX5_readOrder_39 20 0 0 ⟨fun _ => hQ0 F3 E3 t3 fr3 a43.1 (by omega) a43.2.2.1 (Or.inl ⟨p3, sF f f3 pZ, by rw [mvL0]; exact mg_s1 g (mg_w1 y (mg_s1 g3 (mg_w0 y3)))⟩), fun x => absurd rfl x⟩
          · refine vX5_readOrder_39 20 0 1 ⟨fun x => absurd x (by decide), fun _ => ⟨by rw [hK.k20], c_whole (by decide) (by decide) w4 l4 (fun F5 E5 t5 p5 f5 w b4 b1 b2 g5 => ?_) (fun F5 E5 t5 p5 f5 g5 tt5 hw5 => ?_)⟩⟩
            · exact vX5_readOrder_47 20 0 0 ⟨fun x => absurd rfl x, fun _ => hQ0 F5 E5 t5 w b4 (by omega) b2 (Or.inl ⟨p5, sF f f3 pZ, by rw [mvL0]; exact mg_s1 g (mg_w1 y (mg_s1 g3 (mg_w1 y3 (mg_s0 g5))))⟩)⟩
            · have v5 := hw5 (sF f f3 f5) rfl (fun j j9 j0 => by
                unfold sF
                by_cases q : j = 0
                · rw [if_pos q, if_pos q]
                · rw [if_neg q, if_neg q]
                  by_cases q1 : j = 1
                  · rw [if_pos q1, if_pos q1]
                  · exfalso; omega)
              refine vX5_readOrder_47 20 0 1 ⟨fun _ => ⟨fun x => absurd x (by decide), fun _ => ⟨fun _ => ⟨by rw [hK.k20], fin F5 E5 t5 p5 (sF f f3 f5) (by omega) (by rw [mvL0]; exact mg_s1 g (mg_w1 y (mg_s1 g3 (mg_w1 y3 (mg_s1 g5 mg_n))))) v5⟩, fun x => absurd x (by decide)⟩⟩, fun x => absurd x (by decide)⟩
end C
