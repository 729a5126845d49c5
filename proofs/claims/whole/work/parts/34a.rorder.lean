/-! THE REFERENCE READS an order -/
def sA (i : Int) : Int := if i = 0 then 1 else if i = 1 then 3 else 8
def KlO (no op ar : Int → Int) (e c : Int) (x : tKl) : Prop := no (10 * c) = x.1 ∧ no (10 * c + 7) = x.2.1 ∧ (no (10 * c + 6) ≤ e ∧ e ≤ 400) ∧ TsR 1 op ar (no (10 * c + 5)) (no (10 * c + 6)) x.2.2.1 12 ∧
  ∀ i, 0 ≤ i → i < 3 → (i < nSm false x.1 → (0 ≤ no (10 * c + sA i) ∧ no (10 * c + sA i) < no (10 * c + sA i + 1) ∧ no (10 * c + sA i + 1) ≤ e) ∧ SegR 1 op ar (no (10 * c + sA i)) (no (10 * c + sA i + 1)) (x.2.2.2 i) 60 12) ∧ (nSm false x.1 ≤ i → no (10 * c + sA i) = no (10 * c + sA i + 1))
theorem sA_rng {i : Int} : 1 ≤ sA i ∧ sA i ≤ 8 ∧ (sA i = 1 ∨ sA i = 3 ∨ sA i = 8) := by unfold sA; (repeat' split) <;> omega
theorem KlO.grow {no no' op ar op' ar' : Int → Int} {e e' c : Int} {x : tKl} (h : KlO no op ar e c x) (hc : ∀ j, 10 * c ≤ j → j < 10 * c + 10 → no' j = no j) (ag : ∀ j, j < e → op' j = op j ∧ ar' j = ar j) (ee : e ≤ e') (e4 : e' ≤ 400) : KlO no' op' ar' e' c x := by
  obtain ⟨h1, h2, h3, h4, h5⟩ := h
  unfold KlO
  rw [hc _ (by omega) (by omega), hc (10 * c + 7) (by omega) (by omega), hc (10 * c + 6) (by omega) (by omega), hc (10 * c + 5) (by omega) (by omega)]
  refine ⟨h1, h2, by omega, ?_, fun i i0 i3 => ?_⟩
  · unfold TsR at *
    cases q : x.2.2.1 with
    | none => rw [q] at h4; exact h4
    | some f => rw [q] at h4; exact ⟨h4.1, h4.2.low h3.1 ag⟩
  · have s := sA_rng (i := i)
    rw [hc _ (by omega) (by omega), hc (10 * c + sA i + 1) (by omega) (by omega)]
    refine ⟨fun z => ⟨by have := ((h5 i i0 i3).1 z).1; omega, ((h5 i i0 i3).1 z).2.low ((h5 i i0 i3).1 z).1.2.2 ag⟩, (h5 i i0 i3).2⟩
section B
variable {l : Launch} {G : pG} {bg : Nat × Nat} {n : Nat} {K : Int → Nat × Nat} {F E : Int → Int → Int} {Q : Option pV → pM → Prop} {tp : Int → Int} {len : Int} {T : Nat} {kd nm : Int → Int} {t p c : Int}
/-- a sum where it can't be any more -/
theorem r_readSumB {x : Int} (x0 : 0 ≤ x) (x1 : x + 1 < 120) (hK : KS K) (hF : FS F) (h19 : F 66 19 = 1) (hQ : ∀ E', (∀ r, r ≠ 103 → E' r = E r) → Q none (n, K, F, E')) : PC l G 7 mX12_readSum bg [(2, 66), (0, x)] (n, K, F, E) Q := by
  refine vX12_readSum_0 66 x ?_
  simp only [hF.f66_67, hK.k66, hK.k103, h19]
  refine ⟨trivial, by decide, trivial, by omega, fun E1 e1 => ⟨fun _ => ⟨by omega, by omega, fun E2 e2 => hQ E2 fun r hr => by rw [e2, pUp_an hr, e1, pUp_an hr]⟩, fun z => absurd z (by decide)⟩⟩
theorem r_readSum {x t' p' : Int} {ok : Bool} {f : tPhi} (x0 : 0 ≤ x) (x1 : x + 1 < 120) (hE : TkE tp len T kd nm) (h : RBs false tp len T K F E t p c) (hg : Gr false kd nm 3 0 t p pZ ok t' p' f)
    (hF : ok = false → ∀ F' E', BdR tp len F E t' F' E' → Q none (n, K, F', E'))
    (hT : ok = true → ∀ F' E' c', FrBk F E F' E' → (E' 103 = rUp (rUp (E 103) x c) (x + 1) c') → (∀ j, j < c → E' 77 j = E 77 j ∧ E' 78 j = E 78 j) → F' 66 21 = F 66 21 → RBs false tp len T K F' E' t' p' c' → SegR 1 (E' 77) (E' 78) c c' f 60 12 → c < c' → t ≤ t' → Q none (n, K, F', E')) : PC l G 7 mX12_readSum bg [(2, 66), (0, x)] (n, K, F, E) Q := by
  obtain ⟨⟨a1, a2, a3⟩, ⟨a4, a5⟩, a6, a7, ⟨a8, a9⟩, ⟨b1, b2⟩, b3⟩ := id h
  refine vX12_readSum_0 66 x ?_
  simp only [a2.f66_67, a1.k66, a1.k103, b1, a8]
  refine ⟨trivial, by decide, trivial, by omega, fun E1 e1 => ⟨fun z => absurd trivial z, fun _ => ?_⟩⟩
  have h1 : RBs false tp len T K F E1 t p c := by rw [e1]; exact h.row (Or.inr rfl)
  have w1 : FrBk F E F E1 := by rw [e1]; exact (FrBk.refl a2).row (Or.inr rfl)
  refine r_expr hE (Or.inl ⟨rfl, rfl⟩) h1 hg (fun z F2 E2 w2 s1 s2 s3 s4 => ?_) (fun z F2 E2 c' w2 ag h2 sg cc pp tt => ?_)
  · have hF2 := w2.2.1
    refine vX12_readSum_22 66 x ?_
    simp only [hF2.f66_67, a1.k66, a1.k103]
    refine ⟨trivial, by omega, by decide, trivial, by omega, fun E3 e3 => hF z F2 E3 ⟨?_, s1, s2⟩⟩
    rw [e3]
    exact (w1.trans w2.v).row (Or.inr rfl)
  · have hF2 := w2.2.1
    have e23 := h2.2.2.2.2.2.1.1
    refine vX12_readSum_22 66 x ?_
    simp only [hF2.f66_67, a1.k66, a1.k103, e23]
    refine ⟨trivial, by omega, by decide, trivial, by omega, fun E3 e3 => ?_⟩
    have q77 : E3 77 = E2 77 := by rw [e3, pUp_an (by decide)]
    have q78 : E3 78 = E2 78 := by rw [e3, pUp_an (by decide)]
    have u77 : E1 77 = E 77 := by rw [e1, pUp_an (by decide)]
    have u78 : E1 78 = E 78 := by rw [e1, pUp_an (by decide)]
    refine hT z F2 E3 c' (by rw [e3]; exact (w1.trans w2.v).row (Or.inr rfl)) ?_ (fun j hj => by rw [q77, q78, ← u77, ← u78]; exact ag j hj) ?_ (by rw [e3]; exact h2.row (Or.inr rfl)) ?_ cc tt
    · rw [e3, pUp_row, pRow1, if_pos rfl, w2.1 103 (by decide) (by decide) (by decide) (by decide), e1, pUp_row, pRow1, if_pos rfl]
    · rw [w2.2.2 66 21 (by omega)]
    · rw [q77, q78]
      have p5 := h2.2.2.2.2.2.2
      exact sg.wide (by omega)
theorem r_behindB {x w : Int} (x0 : 0 ≤ x) (x1 : x + 1 < 120) (hK : KS K) (hF : FS F) (h19 : F 66 19 = 1) (hQ : ∀ E', (∀ r, r ≠ 103 → E' r = E r) → Q none (n, K, F, E')) : PC l G 8 mX12_readBehind bg [(2, 66), (1, w), (0, x)] (n, K, F, E) Q := by
  refine vX12_readBehind_0 66 w x ⟨by rw [hK.k66], fun _ => r_readSumB x0 x1 hK hF h19 fun E' e => vX12_readBehind_21 (hQ E' e), fun z => absurd z (by omega)⟩
theorem r_behind {x w t' p' : Int} {i : Nat} {ok : Bool} {f : tPhi} (i27 : i < 27) (hi : wKs[i]? = some w) (x0 : 0 ≤ x) (x1 : x + 1 < 120) (hE : TkE tp len T kd nm) (h : RBs false tp len T K F E t p c) (hg : kd t = 259 + (i : Int) → Gr false kd nm 3 0 (t + 1) p pZ ok t' p' f)
    (hF : (kd t ≠ 259 + (i : Int) ∨ ok = false) → ∀ F' E', (kd t ≠ 259 + (i : Int) → BdR tp len F E t F' E') → (kd t = 259 + (i : Int) → BdR tp len F E t' F' E') → Q none (n, K, F', E'))
    (hT : kd t = 259 + (i : Int) → ok = true → ∀ F' E' c', FrBk F E F' E' → (E' 103 = rUp (rUp (E 103) x c) (x + 1) c') → (∀ j, j < c → E' 77 j = E 77 j ∧ E' 78 j = E 78 j) → F' 66 21 = F 66 21 → RBs false tp len T K F' E' t' p' c' → SegR 1 (E' 77) (E' 78) c c' f 60 12 → c < c' → t ≤ t' → Q none (n, K, F', E')) : PC l G 8 mX12_readBehind bg [(2, 66), (1, w), (0, x)] (n, K, F, E) Q := by
  obtain ⟨⟨a1, a2, a3⟩, ⟨a4, a5⟩, a6, a7, ⟨a8, a9⟩, ⟨b1, b2⟩, b3⟩ := id h
  have wd := at_word i i27 hi hE a6 a7.1 a7.2
  refine vX12_readBehind_0 66 w x ⟨h.k66, fun z => absurd a8 z, fun _ => ?_⟩
  by_cases k : kd t = 259 + (i : Int)
  · have tl := hE.lt a7.2 (by omega)
    rw [bI_of (wd.mpr k)]
    refine r_mustB (by decide) hE h tl fun F1 w1 h1 => vX12_readBehind_16 66 x ⟨h.k66, r_readSum x0 x1 hE h1 (hg k) (fun z F2 E2 bd => vX12_readBehind_21 (hF (Or.inr z) F2 E2 (fun q => absurd k q) (fun _ => bd.pre (FrQ.v w1.r)))) (fun z F2 E2 c' w2 q ag e21 h2 sg cc tt => vX12_readBehind_21 (hT k z F2 E2 c' ((FrQ.v w1.r).trans w2) q ag (by rw [e21, w1.2 66 21 (by omega)]) h2 sg cc (by omega)))⟩
  · rw [bI_no (fun q => k (wd.mp q))]
    have bd := h.bad
    refine r_mustF a1 a8 (vX12_readBehind_16 66 x ⟨h.k66, r_readSumB x0 x1 a1 bd.1.2.1 bd.2.1 fun E' e => vX12_readBehind_21 (hF (Or.inl k) _ E' (fun _ => ?_) (fun q => absurd q k))⟩)
    exact ⟨⟨fun r a b => (e r b).trans (bd.1.1 r a b), bd.1.2.1, bd.1.2.2⟩, bd.2.1, bd.2.2⟩
/-- behind an order's sums -/
def OrdT (l : Launch) (G : pG) (bg : Nat × Nat) (n : Nat) (K : Int → Nat × Nat) (F E : Int → Int → Int) (Q : Option pV → pM → Prop) (x2 : Int) : Prop := (K 66).1 = 12 ∧ (-2147483648 ≤ x2 + 7 ∧ x2 + 7 < 2147483648) ∧ (0 : Int) ≤ F 66 67 ∧ (K (F 66 67)).1 = 20 ∧ ((0 : Int) ≤ x2 + 7 ∧ x2 + 7 < ((K (F 66 67)).2 : Int)) ∧ (∀ E1, E1 = pUp E (F 66 67) (x2 + 7) 1 → ((¬ (F 66 19) = 0 → (-2147483648 ≤ x2 + 5 ∧ x2 + 5 < 2147483648) ∧ ((0 : Int) ≤ x2 + 5 ∧ x2 + 5 < ((K (F 66 67)).2 : Int)) ∧ (∀ E2, E2 = pUp E1 (F 66 67) (x2 + 5) (F 66 23) → ((¬ (F 66 19) = 0 → (-2147483648 ≤ x2 + 6 ∧ x2 + 6 < 2147483648) ∧ ((0 : Int) ≤ x2 + 6 ∧ x2 + 6 < ((K (F 66 67)).2 : Int)) ∧ (∀ E3, E3 = pUp E2 (F 66 67) (x2 + 6) (F 66 23) → Q none (n, K, F, E3))) ∧ ((F 66 19) = 0 → ((¬ (F 66 16 = 1 ∧ F 66 17 = 294) → (-2147483648 ≤ x2 + 6 ∧ x2 + 6 < 2147483648) ∧ ((0 : Int) ≤ x2 + 6 ∧ x2 + 6 < ((K (F 66 67)).2 : Int)) ∧ (∀ E4, E4 = pUp E2 (F 66 67) (x2 + 6) (F 66 23) → Q none (n, K, F, E4))) ∧ (F 66 16 = 1 ∧ F 66 17 = 294 → PC l G 1 mX12_next (0, 0) [(2, 66)] (n, K, F, E2) (fun r μ => PW l G 9 mX12_readOrder bg 241 [(0, (2, 66)), (2, (0, x2))] (r.toList ++ []) μ Q))))))) ∧ ((F 66 19) = 0 → ((¬ (F 66 16 = 1 ∧ F 66 17 = 21279923) → (-2147483648 ≤ x2 + 5 ∧ x2 + 5 < 2147483648) ∧ ((0 : Int) ≤ x2 + 5 ∧ x2 + 5 < ((K (F 66 67)).2 : Int)) ∧ (∀ E5, E5 = pUp E1 (F 66 67) (x2 + 5) (F 66 23) → ((¬ (F 66 19) = 0 → (-2147483648 ≤ x2 + 6 ∧ x2 + 6 < 2147483648) ∧ ((0 : Int) ≤ x2 + 6 ∧ x2 + 6 < ((K (F 66 67)).2 : Int)) ∧ (∀ E6, E6 = pUp E5 (F 66 67) (x2 + 6) (F 66 23) → Q none (n, K, F, E6))) ∧ ((F 66 19) = 0 → ((¬ (F 66 16 = 1 ∧ F 66 17 = 294) → (-2147483648 ≤ x2 + 6 ∧ x2 + 6 < 2147483648) ∧ ((0 : Int) ≤ x2 + 6 ∧ x2 + 6 < ((K (F 66 67)).2 : Int)) ∧ (∀ E7, E7 = pUp E5 (F 66 67) (x2 + 6) (F 66 23) → Q none (n, K, F, E7))) ∧ (F 66 16 = 1 ∧ F 66 17 = 294 → PC l G 1 mX12_next (0, 0) [(2, 66)] (n, K, F, E5) (fun r μ => PW l G 9 mX12_readOrder bg 241 [(0, (2, 66)), (2, (0, x2))] (r.toList ++ []) μ Q))))))) ∧ (F 66 16 = 1 ∧ F 66 17 = 21279923 → PC l G 1 mX12_next (0, 0) [(2, 66)] (n, K, F, E1) (fun r μ => PW l G 9 mX12_readOrder bg 191 [(0, (2, 66)), (2, (0, x2))] (r.toList ++ []) μ Q))))))
theorem r_ordTB {x : Int} (x0 : 0 ≤ x) (x1 : x + 10 ≤ 120) (hK : KS K) (hF : FS F) (h19 : F 66 19 = 1) (hQ : ∀ E', (∀ r, r ≠ 103 → E' r = E r) → Q none (n, K, F, E')) : OrdT l G bg n K F E Q x := by
  unfold OrdT
  simp only [hF.f66_67, hK.k66, hK.k103, h19]
  refine ⟨trivial, by omega, by decide, trivial, by omega, fun E1 e1 => ⟨fun _ => ⟨by omega, by omega, fun E2 e2 => ⟨fun _ => ⟨by omega, by omega, fun E3 e3 => hQ E3 fun r hr => by rw [e3, pUp_an hr, e2, pUp_an hr, e1, pUp_an hr]⟩, fun z => absurd z (by decide)⟩⟩, fun z => absurd z (by decide)⟩⟩
theorem r_ordIf {x t' p' : Int} {ok : Bool} {f : tPhi} (x0 : 0 ≤ x) (x1 : x + 10 ≤ 120) (hE : TkE tp len T kd nm) (h : RBs false tp len T K F E t p c) (hk : kd t = 282) (hg : Gr false kd nm 9 0 (t + 1) p pZ ok t' p' f)
    (hF : ok = false → ∀ F' E', BdR tp len F E t' F' E' → Q none (n, K, F', E'))
    (hT : ok = true → ∀ F' E' c', FrBk F E F' E' → (E' 103 = rUp (E 103) (x + 6) c') → (∀ j, j < c → E' 77 j = E 77 j ∧ E' 78 j = E 78 j) → F' 66 21 = F 66 21 → RBs false tp len T K F' E' t' p' c' → SegR 1 (E' 77) (E' 78) c c' f 60 12 → c < c' → t ≤ t' → Q none (n, K, F', E')) : PC l G 1 mX12_next (0, 0) [(2, 66)] (n, K, F, E) (fun r μ => PW l G 9 mX12_readOrder bg 241 [(0, (2, 66)), (2, (0, x))] (r.toList ++ []) μ Q) := by
  have hK := h.1.1
  have tl := hE.lt h.2.2.2.1.2 (by omega)
  refine r_nextB hE h tl fun F1 w1 h1 => vX12_readOrder_241 66 x ⟨h.k66, r_expr hE (Or.inr ⟨rfl, rfl⟩) h1 hg (fun z F2 E2 w2 a1 a2 a3 a4 => ?_) (fun z F2 E2 c' w2 ag h2 sg cc pp tt => ?_)⟩
  · have hF2 := w2.2.1
    refine vX12_readOrder_246 66 x ?_
    simp only [hF2.f66_67, hK.k66, hK.k103]
    refine ⟨trivial, by omega, by decide, trivial, by omega, fun E3 e3 => hF z F2 E3 ⟨?_, a1, a2⟩⟩
    rw [e3]
    exact ((FrQ.v w1.r).trans w2.v).row (Or.inr rfl)
  · have hF2 := w2.2.1
    have e23 := h2.2.2.2.2.2.1.1
    refine vX12_readOrder_246 66 x ?_
    simp only [hF2.f66_67, hK.k66, hK.k103, e23]
    refine ⟨trivial, by omega, by decide, trivial, by omega, fun E3 e3 => ?_⟩
    have wv : FrBk F E F2 E3 := by rw [e3]; exact ((FrQ.v w1.r).trans w2.v).row (Or.inr rfl)
    have q77 : E3 77 = E2 77 := by rw [e3, pUp_an (by decide)]
    have q78 : E3 78 = E2 78 := by rw [e3, pUp_an (by decide)]
    refine hT z F2 E3 c' wv ?_ (fun j hj => by rw [q77, q78]; exact ag j hj) ?_ (by rw [e3]; exact h2.row (Or.inr rfl)) ?_ cc (by omega)
    · rw [e3, pUp_row, pRow1, if_pos rfl, w2.1 103 (by decide) (by decide) (by decide) (by decide)]
    · rw [w2.2.2 66 21 (by omega), w1.2 66 21 (by omega)]
    · rw [q77, q78]
      have p5 := h2.2.2.2.2.2.2
      have p6 := h1.2.2.2.2.2.2
      exact sg.wide (by omega)
/-- how often, and whether: with the end of the clause -/
def EnO (tp : Int → Int) (len : Int) (T : Nat) (K : Int → Nat × Nat) (F E : Int → Int → Int) (x t p c : Int) (F' E' : Int → Int → Int) (t' p' c5 c' tm : Int) (ts : Option tPhi) : Prop := FrBk F E F' E' ∧ (E' 103 (x + 7) = tm ∧ E' 103 (x + 5) = c5 ∧ E' 103 (x + 6) = c' ∧ ∀ j, j ≠ x + 7 → j ≠ x + 5 → j ≠ x + 6 → E' 103 j = E 103 j) ∧ (∀ j, j < c → E' 77 j = E 77 j ∧ E' 78 j = E 78 j) ∧ F' 66 21 = F 66 21 ∧ RBs false tp len T K F' E' t' p' c' ∧ (c5 = c ∧ c ≤ c' ∧ t ≤ t') ∧ TsR 1 (E' 77) (E' 78) c5 c' ts 12
theorem r_ordIfs {x t' p' : Int} {ok : Bool} {ts : Option tPhi} (x0 : 0 ≤ x) (x1 : x + 10 ≤ 120) (hE : TkE tp len T kd nm) (h : RBs false tp len T K F E t p c) (hi : IfG false kd nm t p ok t' p' ts) (h5 : E 103 (x + 5) = c)
    (hF : ok = false → ∀ F' E', BdR tp len F E t' F' E' → Q none (n, K, F', E'))
    (hT : ok = true → ∀ F' E' c', FrBk F E F' E' → (E' 103 = rUp (E 103) (x + 6) c') → (∀ j, j < c → E' 77 j = E 77 j ∧ E' 78 j = E 78 j) → F' 66 21 = F 66 21 → RBs false tp len T K F' E' t' p' c' → (c ≤ c' ∧ t ≤ t') → TsR 1 (E' 77) (E' 78) c c' ts 12 → Q none (n, K, F', E')) :
    (¬ (F 66 16 = 1 ∧ F 66 17 = 294) → ∀ E', E' = pUp E 103 (x + 6) c → Q none (n, K, F, E')) ∧ (F 66 16 = 1 ∧ F 66 17 = 294 → PC l G 1 mX12_next (0, 0) [(2, 66)] (n, K, F, E) (fun r μ => PW l G 9 mX12_readOrder bg 241 [(0, (2, 66)), (2, (0, x))] (r.toList ++ []) μ Q)) := by
  obtain ⟨⟨a1, a2, a3⟩, ⟨a4, a5⟩, a6, a7, ⟨a8, a9⟩, ⟨b1, b2⟩, b3⟩ := id h
  have hl := hE.1
  have hTT := hE.2.2.1.2
  have wd := at_word (v := 294) 23 (by decide) rfl hE a6 a7.1 a7.2
  refine ⟨fun z E' e => ?_, fun z => ?_⟩
  · rcases hi with ⟨_, i1, i2, i3, i4⟩ | ⟨q, _⟩
    · have h6 : RBs false tp len T K F E' t p c := by rw [e]; exact h.row (Or.inr rfl)
      rw [← i2, ← i3] at h6
      refine hT i1 F E' c (by rw [e]; exact (FrBk.refl a2).row (Or.inr rfl)) (by rw [e, pUp_row, pRow1, if_pos rfl]) (fun j hj => by rw [e, pUp_an (by decide), pUp_an (by decide)]; exact ⟨rfl, rfl⟩) rfl h6 (by omega) ?_
      rw [i4]
      exact Int.le_refl c
    · exact absurd (wd.mpr q) z
  · have k0 := wd.mp z
    rcases hi with ⟨q, _⟩ | ⟨_, hi⟩
    · exact absurd k0 q
    rcases hi with ⟨o1, p1, f, gr⟩ | ⟨o1, f, gr, e⟩
    · refine r_ordIf x0 x1 hE h k0 (ok := false) gr (fun _ F7 E7 bd => hF o1 F7 E7 bd) (fun q => by cases q)
    · refine r_ordIf x0 x1 hE h k0 (ok := true) gr (fun q => by cases q) (fun _ F7 E7 c' w7 q7 ag e21 h7 sg cc tt => ?_)
      have c4 := h7.2.2.2.2.2.2
      have t4 := h7.2.2.2.1
      refine hT o1 F7 E7 c' w7 q7 ag e21 h7 (by omega) ?_
      rw [e]
      exact ⟨by omega, sg⟩
theorem r_ordT {x t' p' tm : Int} {ok : Bool} {ts : Option tPhi} (x0 : 0 ≤ x) (x1 : x + 10 ≤ 120) (hE : TkE tp len T kd nm) (h : RBs false tp len T K F E t p c) (hg : (ok = false ∧ ∃ n', TmG false kd nm t false t' n') ∨ ∃ t2, TmG false kd nm t true t2 tm ∧ IfG false kd nm t2 p ok t' p' ts)
    (hF : ok = false → ∀ F' E', BdR tp len F E t' F' E' → Q none (n, K, F', E'))
    (hT : ok = true → ∀ F' E' c', EnO tp len T K F E x t p c F' E' t' p' c c' tm ts → Q none (n, K, F', E')) : OrdT l G bg n K F E Q x := by
  obtain ⟨⟨a1, a2, a3⟩, ⟨a4, a5⟩, a6, a7, ⟨a8, a9⟩, ⟨b1, b2⟩, b3⟩ := id h
  have hl := hE.1
  have hTT := hE.2.2.1.2
  have wd := at_word (v := 21279923) 22 (by decide) rfl hE a6 a7.1 a7.2
  unfold OrdT
  simp only [a2.f66_67, a1.k66, a1.k103, b1, a8]
  refine ⟨trivial, by omega, by decide, trivial, by omega, fun E1 e1 => ⟨fun z => absurd trivial z, fun _ => ⟨fun z => ⟨by omega, by omega, fun E2 e2 => ⟨fun y => absurd trivial y, fun _ => ?_⟩⟩, fun z => ?_⟩⟩⟩
  · have k0 : kd t ≠ 281 := fun q => z (wd.mpr q)
    rcases hg with ⟨_, n', g⟩ | ⟨t2, g, hi⟩
    · rcases g with ⟨_, q, _⟩ | ⟨_, q, _⟩
      · cases q
      · exact absurd q k0
    rcases g with ⟨_, _, g1, g2⟩ | ⟨_, q, _⟩
    · subst g1
      have h2 : RBs false tp len T K F E2 t2 p c := by rw [e2, e1]; exact (h.row (Or.inr rfl)).row (Or.inr rfl)
      have w2 : FrBk F E F E2 := by rw [e2, e1]; exact ((FrBk.refl a2).row (Or.inr rfl)).row (Or.inr rfl)
      have q2 : E2 103 = rUp (rUp (E 103) (x + 7) 1) (x + 5) c := by rw [e2, pUp_row, pRow1, if_pos rfl, e1, pUp_row, pRow1, if_pos rfl]
      have o2 : ∀ r, r ≠ 103 → E2 r = E r := fun r hr => by rw [e2, pUp_an hr, e1, pUp_an hr]
      have fin := r_ordIfs (l := l) (G := G) (bg := bg) (n := n) (Q := Q) x0 x1 hE h2 hi (by rw [q2, rUp_s]) (fun o F' E' bd => hF o F' E' (bd.pre w2)) (fun o F' E' c' w3 q3 ag e21 h3 cc ts' => hT o F' E' c' ⟨w2.trans w3, ⟨?_, ?_, ?_, fun j j1 j2 j3 => ?_⟩, fun j hj => ?_, e21, h3, ⟨rfl, cc.1, cc.2⟩, ts'⟩)
      · exact ⟨fun y => ⟨by omega, by omega, fun E3 e3 => fin.1 y E3 e3⟩, fin.2⟩
      · rw [q3, rUp_n (by omega), q2, rUp_n (by omega), rUp_s, g2]
      · rw [q3, rUp_n (by omega), q2, rUp_s]
      · rw [q3, rUp_s]
      · rw [q3, rUp_n j3, q2, rUp_n j2, rUp_n j1]
      · have := ag j hj
        rw [o2 77 (by decide), o2 78 (by decide)] at this
        exact this
    · exact absurd q k0
  · have k0 := wd.mp z
    have tl := hE.lt a7.2 (by omega)
    have h1 : RBs false tp len T K F E1 t p c := by rw [e1]; exact h.row (Or.inr rfl)
    have w1 : FrBk F E F E1 := by rw [e1]; exact (FrBk.refl a2).row (Or.inr rfl)
    have o1 : ∀ r, r ≠ 103 → E1 r = E r := fun r hr => by rw [e1, pUp_an hr]
    have q1 : E1 103 = rUp (E 103) (x + 7) 1 := by rw [e1, pUp_row, pRow1, if_pos rfl]
    refine r_nextB hE h1 tl fun F2 w2 h2 => vX12_readOrder_191 66 x ⟨h.k66, by omega, ?_⟩
    have wq := w1.trans (FrQ.v w2.r)
    obtain ⟨⟨c1, c2, c3⟩, ⟨c4, c5⟩, c6, c7, ⟨c8, c9⟩, ⟨d1, d2⟩, d3⟩ := id h2
    have dg := at_dig hE c6 c7.1 c7.2
    refine r_number_0 ⟨fun y => r_mustF c1 c8 (vX12_number_36 _ ?_), fun y => ?_⟩ c1
    · -- no such number
      have bd := h2.bad
      have no : ¬ (kd (t + 1) = 257 ∧ 1 ≤ nm (t + 1) ∧ nm (t + 1) ≤ 20) := fun q => by
        have v := dg.2 q.1
        rcases y with y | y
        · exact y (dg.1.mpr q.1)
        · omega
      have hF3 := bd.1.2.1
      have f19 : pUp (pUp F2 66 19 1) 66 18 (F2 66 14) 66 19 = 1 := bd.2.1
      rw [c2.f66_67]
      refine vX12_readOrder_207 66 x _ _ _ ?_
      simp only [hF3.f66_67, a1.k66, a1.k103, f19]
      refine ⟨by decide, trivial, by omega, fun E3 e3 => ⟨trivial, by omega, by decide, trivial, by omega, fun E4 e4 => ⟨fun _ => ⟨by omega, by omega, fun E5 e5 => ?_⟩, fun q => absurd q (by decide)⟩⟩⟩
      have b5 : BdR tp len F E (t + 1) (pUp (pUp F2 66 19 1) 66 18 (F2 66 14)) E5 := by
        rw [e5, e4, e3]
        exact ⟨((((wq.trans bd.1).row (Or.inr rfl)).row (Or.inr rfl)).row (Or.inr rfl)), bd.2.1, bd.2.2⟩
      rcases hg with ⟨o, n', g⟩ | ⟨t2, g, hi⟩
      · rcases g with ⟨_, q, _⟩ | ⟨_, _, ⟨q, _⟩ | ⟨_, q, _⟩⟩
        · cases q
        · cases q
        · exact hF o _ _ (by rw [q]; exact b5)
      · rcases g with ⟨g, _⟩ | ⟨_, _, ⟨_, g1, g2, g3, g4, g5⟩ | ⟨q, _⟩⟩
        · rcases g with g | g
          · cases g
          · exact absurd k0 g
        · exact absurd ⟨g3, by omega, by omega⟩ no
        · cases q
    · -- a number
      have k1 := dg.1.mp y.1
      have v := dg.2 k1
      have tl2 := hE.lt c7.2 (by omega)
      rw [c2.f66_67]
      refine r_mustB (by decide) hE h2 tl2 fun F3 w3 h3 => vX12_number_36 _ ?_
      have hF3 := w3.1
      rw [w32_id (by omega) (by omega)]
      obtain ⟨_, _, d6, d7, ⟨d8, _⟩, ⟨d9, _⟩, _⟩ := id h3
      refine vX12_readOrder_207 66 x _ _ _ ?_
      simp only [hF3.f66_67, a1.k66, a1.k103, d8, d9]
      refine ⟨by decide, trivial, by omega, fun E3 e3 => ⟨trivial, by omega, by decide, trivial, by omega, fun E4 e4 => ⟨fun q => absurd trivial q, fun _ => ?_⟩⟩⟩
      have h4 : RBs false tp len T K F3 E4 (t + 1 + 1) p c := by rw [e4, e3]; exact (h3.row (Or.inr rfl)).row (Or.inr rfl)
      have w4 : FrBk F E F3 E4 := by rw [e4, e3]; exact ((wq.trans (FrQ.v w3.r)).row (Or.inr rfl)).row (Or.inr rfl)
      have q4 : E4 103 = rUp (rUp (E1 103) (x + 7) (F2 66 17)) (x + 5) c := by rw [e4, pUp_row, pRow1, if_pos rfl, e3, pUp_row, pRow1, if_pos rfl]
      have o4 : ∀ r, r ≠ 103 → E4 r = E r := fun r hr => by rw [e4, pUp_an hr, e3, pUp_an hr]; exact o1 r hr
      rcases hg with ⟨o, n', g⟩ | ⟨t2, g, hi⟩
      · rcases g with ⟨_, q, _⟩ | ⟨_, _, ⟨q, _⟩ | ⟨_, _, q⟩⟩
        · cases q
        · cases q
        · exact absurd ⟨k1, by omega, by omega⟩ q
      · rcases g with ⟨g, _⟩ | ⟨_, _, ⟨_, g1, g2, g3, g4, g5⟩ | ⟨q, _⟩⟩
        · rcases g with g | g
          · cases g
          · exact absurd k0 g
        · have e2 : t2 = t + 1 + 1 := by omega
          subst e2
          have fin := r_ordIfs (l := l) (G := G) (bg := bg) (n := n) (Q := Q) x0 x1 hE h4 hi (by rw [q4, rUp_s]) (fun o F' E' bd => hF o F' E' (bd.pre w4)) (fun o F' E' c' w5 q5 ag e21 h5 cc ts' => hT o F' E' c' ⟨w4.trans w5, ⟨?_, ?_, ?_, fun j j1 j2 j3 => ?_⟩, fun j hj => ?_, ?_, h5, ⟨rfl, cc.1, by omega⟩, ts'⟩)
          · exact ⟨fun y => ⟨by omega, by omega, fun E5 e5 => fin.1 y E5 e5⟩, fin.2⟩
          · rw [q5, rUp_n (by omega), q4, rUp_n (by omega), rUp_s]; omega
          · rw [q5, rUp_n (by omega), q4, rUp_s]
          · rw [q5, rUp_s]
          · rw [q5, rUp_n j3, q4, rUp_n j2, rUp_n j1, q1, rUp_n j1]
          · have := ag j hj
            rw [o4 77 (by decide), o4 78 (by decide)] at this
            exact this
          · rw [e21, w3.2 66 21 (by omega), w2.2 66 21 (by omega)]
        · cases q
end B
