/-! THE REFERENCE READS a clause of a law -/
def FrBk (F E F' E' : Int → Int → Int) : Prop := (∀ r, (r < 76 ∨ 80 < r) → r ≠ 103 → E' r = E r) ∧ FS F' ∧ ∀ a k, ¬ (a = 66 ∧ ((14 ≤ k ∧ k ≤ 19) ∨ k = 21 ∨ k = 23 ∨ k = 26 ∨ k = 29 ∨ k = 30)) → F' a k = F a k
theorem FrBk.refl {F E : Int → Int → Int} (h : FS F) : FrBk F E F E := ⟨fun _ _ _ => rfl, h, fun _ _ _ => rfl⟩
theorem FrBk.trans {F E F' E' F'' E'' : Int → Int → Int} (h : FrBk F E F' E') (h' : FrBk F' E' F'' E'') : FrBk F E F'' E'' := ⟨fun r a b => (h'.1 r a b).trans (h.1 r a b), h'.2.1, fun a k q => (h'.2.2 a k q).trans (h.2.2 a k q)⟩
theorem FrQ.v {F E F' E' : Int → Int → Int} (h : FrQ F E F' E') : FrBk F E F' E' := ⟨fun r a _ => h.1 r (by omega) (by omega) (by omega) (by omega), h.2.1, fun a k q => h.2.2 a k (by omega)⟩
theorem FrBk.row {F E F' E' : Int → Int → Int} {a k v : Int} (h : FrBk F E F' E') (ha : a = 76 ∨ a = 103) : FrBk F E F' (pUp E' a k v) := ⟨fun r b c => by rw [pUp_an (by omega)]; exact h.1 r b c, h.2.1, h.2.2⟩
theorem FrBk.cl {F E F' E' : Int → Int → Int} {v : Int} (h : FrBk F E F' E') : FrBk F E (pUp F' 66 21 v) E' := ⟨h.1, h.2.1.up (by decide), fun a k q => by unfold pUp; rw [if_neg (by omega)]; exact h.2.2 a k q⟩
theorem FrBk.es {F E F' E' : Int → Int → Int} (h : FrBk F E F' E') (q : ES E) : ES E' := fun t ht => by
  have z : ∀ t ∈ eTab, (t.1 < 76 ∨ 80 < t.1) ∧ t.1 ≠ 103 := by decide
  have y := z t ht
  rw [h.1 t.1 y.1 y.2]
  exact q t ht
theorem SegR.low {o a b e m nw : Int} {op ar op' ar' : Int → Int} {f : tPhi} (h : SegR o op ar a b f m nw) (be : b ≤ e) (ag : ∀ j, j < e → op' j = op j ∧ ar' j = ar j) : SegR o op' ar' a b f m nw := h.congr fun j j0 j1 => ag j (by omega)
def KlL (cl op ar : Int → Int) (e c : Int) (x : tKl) : Prop := cl (8 * c) = x.1 ∧ (cl (8 * c + 6) ≤ e ∧ e ≤ 400) ∧ TsR 0 op ar (cl (8 * c + 5)) (cl (8 * c + 6)) x.2.2.1 9 ∧ (x.1 = 0 → (0 ≤ cl (8 * c + 3) ∧ cl (8 * c + 4) ≤ e) ∧ SegR 0 op ar (cl (8 * c + 3)) (cl (8 * c + 4)) (x.2.2.2 0) 60 9)
theorem KlL.grow {cl cl' op ar op' ar' : Int → Int} {e e' c : Int} {x : tKl} (h : KlL cl op ar e c x) (hc : ∀ j, 8 * c ≤ j → j < 8 * c + 8 → cl' j = cl j) (ag : ∀ j, j < e → op' j = op j ∧ ar' j = ar j) (ee : e ≤ e') (e4 : e' ≤ 400) : KlL cl' op' ar' e' c x := by
  obtain ⟨h1, h2, h3, h4⟩ := h
  unfold KlL
  rw [hc _ (by omega) (by omega), hc (8 * c + 6) (by omega) (by omega), hc (8 * c + 5) (by omega) (by omega), hc (8 * c + 3) (by omega) (by omega), hc (8 * c + 4) (by omega) (by omega)]
  refine ⟨h1, by omega, ?_, fun z => ⟨⟨(h4 z).1.1, by have := (h4 z).1.2; omega⟩, (h4 z).2.low (h4 z).1.2 ag⟩⟩
  unfold TsR at *
  cases q : x.2.2.1 with
  | none => rw [q] at h3; exact h3
  | some f => rw [q] at h3; exact ⟨h3.1, h3.2.low h2.1 ag⟩
section B
variable {l : Launch} {G : pG} {bg : Nat × Nat} {n : Nat} {K : Int → Nat × Nat} {F E : Int → Int → Int} {Q : Option pV → pM → Prop} {lw : Bool} {tp : Int → Int} {len : Int} {T : Nat} {kd nm : Int → Int} {t p c : Int}
theorem RBs.mk' {F' E' : Int → Int → Int} {t' p' c' : Int} (h : RBs lw tp len T K F E t p c) (w : FrBk F E F' E') (a : AtT tp len F' t') (tr : 0 ≤ t' ∧ t' ≤ T) (b : F' 66 19 = 0) (v : F' 66 23 = c' ∧ F' 66 26 = p') (r : 0 ≤ c' ∧ c' ≤ t' ∧ 0 ≤ p' ∧ p' ≤ 50) : RBs lw tp len T K F' E' t' p' c' := by
  obtain ⟨⟨a1, a2, a3⟩, ⟨a4, a5⟩, a6, a7, ⟨a8, a9⟩, _⟩ := h
  exact ⟨⟨a1, w.2.1, w.es a3⟩, ⟨by rw [w.2.2 66 13 (by omega)]; exact a4, by rw [w.1 75 (by decide) (by decide)]; exact a5⟩, a, tr, ⟨b, by rw [w.2.2 66 20 (by omega)]; exact a9⟩, v, r⟩
theorem RBs.row {a k v : Int} (h : RBs lw tp len T K F E t p c) (ha : a = 76 ∨ a = 103) : RBs lw tp len T K F (pUp E a k v) t p c := by
  obtain ⟨a1, a2, a3, a4, a5, a6, a7⟩ := id h
  exact h.mk' ((FrBk.refl a1.2.1).row ha) a3 a4 a5.1 a6 a7
theorem RBs.next {F' : Int → Int → Int} (h : RBs lw tp len T K F E t p c) (w : FrT F F') (a : AtT tp len F' (t + 1)) (tl : t < T) : RBs lw tp len T K F' E (t + 1) p c := by
  obtain ⟨a1, a2, a3, a4, a5, a6, a7⟩ := id h
  have g : ∀ k, (k < 14 ∨ 17 < k) → F' 66 k = F 66 k := fun k hk => w.2 66 k (by omega)
  exact h.mk' (FrQ.v w.r) a (by omega) (by rw [g 19 (by omega)]; exact a5.1) ⟨by rw [g 23 (by omega)]; exact a6.1, by rw [g 26 (by omega)]; exact a6.2⟩ (by omega)
theorem RBs.k66 (h : RBs lw tp len T K F E t p c) : (K 66).1 = 12 := by rw [h.1.1.k66]
theorem r_nextB (hE : TkE tp len T kd nm) (h : RBs lw tp len T K F E t p c) (tl : t < T) (hQ : ∀ F', FrT F F' → RBs lw tp len T K F' E (t + 1) p c → Q none (n, K, F', E)) : PC l G 1 mX12_next bg [(2, 66)] (n, K, F, E) Q :=
  r_nextT h.1.1 h.1.2.1 hE h.2.1.2 h.2.1.1 h.2.2.1 h.2.2.2.1.1 tl fun F' w a => hQ F' w (h.next w a tl)
theorem r_mustB {x : Int} (x1 : x ≠ 0) (hE : TkE tp len T kd nm) (h : RBs lw tp len T K F E t p c) (tl : t < T) (hQ : ∀ F', FrT F F' → RBs lw tp len T K F' E (t + 1) p c → Q none (n, K, F', E)) : PC l G 2 mX12_must bg [(2, 66), (0, x)] (n, K, F, E) Q :=
  r_mustT x1 h.1.1 h.1.2.1 hE h.2.1.2 h.2.1.1 h.2.2.2.2.1.1 h.2.2.1 h.2.2.2.1.1 tl fun F' w a => hQ F' w (h.next w a tl)
/-- it can't be -/
def BdR (tp : Int → Int) (len : Int) (F E : Int → Int → Int) (t : Int) (F' E' : Int → Int → Int) : Prop := FrBk F E F' E' ∧ F' 66 19 = 1 ∧ F' 66 18 = tB tp len t
theorem BdR.pre {F1 E1 F' E' : Int → Int → Int} (w : FrBk F E F1 E1) (h : BdR tp len F1 E1 t F' E') : BdR tp len F E t F' E' := ⟨w.trans h.1, h.2⟩
theorem RBs.bad (h : RBs lw tp len T K F E t p c) : BdR tp len F E t (pUp (pUp F 66 19 1) 66 18 (F 66 14)) E :=
  ⟨(((FrQ.refl h.1.2.1).up (by omega)).up (by omega)).v, by rw [pUp_k (by decide), pUp_s], by rw [pUp_s]; exact h.2.2.1.1⟩
/-- the test of a law's clause -/
theorem r_lawIf {x t' p' : Int} {ok : Bool} {f : tPhi} (x0 : 0 ≤ x) (x1 : x + 8 ≤ 96) (hE : TkE tp len T kd nm) (h : RBs true tp len T K F E t p c) (hk : kd t = 282) (hg : Gr true kd nm 9 0 (t + 1) p pZ ok t' p' f)
    (hF : ok = false → ∀ F' E', BdR tp len F E t' F' E' → Q none (n, K, F', E'))
    (hT : ok = true → ∀ F' E' c', FrBk F E F' E' → (E' 76 = rUp (E 76) (x + 6) c') → (∀ j, j < c → E' 77 j = E 77 j ∧ E' 78 j = E 78 j) → F' 66 21 = F 66 21 → RBs true tp len T K F' E' t' p' c' → SegR 0 (E' 77) (E' 78) c c' f 60 9 → c < c' → t ≤ t' → Q none (n, K, F', E')) : PC l G 1 mX12_next (0, 0) [(2, 66)] (n, K, F, E) (fun r μ => PW l G 7 mX12_readLaw bg 179 [(0, (2, 66)), (2, (0, x))] (r.toList ++ []) μ Q) := by
  have hK := h.1.1
  have tl := hE.lt h.2.2.2.1.2 (by omega)
  refine r_nextB hE h tl fun F1 w1 h1 => vX12_readLaw_179 66 x ⟨h.k66, r_expr hE (Or.inr ⟨rfl, rfl⟩) h1 hg (fun z F2 E2 w2 a1 a2 a3 a4 => ?_) (fun z F2 E2 c' w2 ag h2 sg cc pp tt => ?_)⟩
  · have hF2 := w2.2.1
    refine vX12_readLaw_184 66 x ?_
    simp only [hF2.f66_22, hK.k66, hK.k76]
    refine ⟨trivial, by omega, by decide, trivial, by omega, fun E3 e3 => hF z F2 E3 ⟨?_, a1, a2⟩⟩
    rw [e3]
    exact ((FrQ.v w1.r).trans w2.v).row (Or.inl rfl)
  · have hF2 := w2.2.1
    have e23 := h2.2.2.2.2.2.1.1
    refine vX12_readLaw_184 66 x ?_
    simp only [hF2.f66_22, hK.k66, hK.k76, e23]
    refine ⟨trivial, by omega, by decide, trivial, by omega, fun E3 e3 => ?_⟩
    have wv : FrBk F E F2 E3 := by rw [e3]; exact ((FrQ.v w1.r).trans w2.v).row (Or.inl rfl)
    have q77 : E3 77 = E2 77 := by rw [e3, pUp_an (by decide)]
    have q78 : E3 78 = E2 78 := by rw [e3, pUp_an (by decide)]
    refine hT z F2 E3 c' wv ?_ (fun j hj => by rw [q77, q78]; exact ag j hj) ?_ (by rw [e3]; exact h2.row (Or.inl rfl)) ?_ cc (by omega)
    · rw [e3, pUp_row, pRow1, if_pos rfl, w2.1 76 (by decide) (by decide) (by decide) (by decide)]
    · rw [w2.2.2 66 21 (by omega), w1.2 66 21 (by omega)]
    · rw [q77, q78]
      have p5 := h2.2.2.2.2.2.2
      have p6 := h1.2.2.2.2.2.2
      exact sg.wide (by omega)
theorem r_zero75 {v x : Int} (x0 : 0 ≤ x) (x1 : x + 8 ≤ 96) (hK : KS K) (hF : FS F) (m : Nat) : ∀ (i : Int) (E1 : Int → Int → Int), i + m = 8 → 0 ≤ i → (∀ r, r ≠ 76 → E1 r = E r) → (∀ j, j < x → E1 76 j = E 76 j) → (∀ E', (∀ r, r ≠ 76 → E' r = E r) → (∀ j, j < x → E' 76 j = E 76 j) → PW l G 7 mX12_readLaw bg 75 [(0, (2, 66)), (1, (0, v)), (2, (0, x)), (3, (0, 8))] [] (n, K, F, E') Q) → PW l G 7 mX12_readLaw bg 75 [(0, (2, 66)), (1, (0, v)), (2, (0, x)), (3, (0, i))] [] (n, K, F, E1) Q := by
  induction m with
  | zero =>
    intro i E1 e i0 r1 r2 hQ
    rw [show i = 8 by omega]
    exact hQ E1 r1 r2
  | succ m ih =>
    intro i E1 e i0 r1 r2 hQ
    refine vX12_readLaw_75 66 v x i ⟨fun z => absurd z (by omega), fun _ => ?_⟩
    simp only [hF.f66_22, hK.k66, hK.k76]
    refine ⟨trivial, by omega, by decide, trivial, by omega, fun E2 e2 => ⟨by omega, ih (i + 1) E2 (by omega) (by omega) (fun r hr => by rw [e2, pUp_an hr]; exact r1 r hr) (fun j hj => by rw [e2, pUp_k (by omega)]; exact r2 j hj) hQ⟩⟩
theorem r_readLaw {N : Nat} {t' p' : Int} {ok : Bool} {x : tKl} (hE : TkE tp len T kd nm) (h : RBs true tp len T K F E t p c) (h21 : F 66 21 = (N : Int)) (n12 : N ≤ 12) (hg : N < 12 → ClG true kd nm t p ok t' p' x)
    (hF : (N = 12 ∨ ok = false) → ∀ F' E', BdR tp len F E (if N = 12 then t else t') F' E' → Q none (n, K, F', E'))
    (hT : N < 12 → ok = true → ∀ F' E' c', FrBk F E F' E' → F' 66 21 = (N : Int) + 1 → (∀ j, j < 8 * (N : Int) → E' 76 j = E 76 j) → (∀ j, j < c → E' 77 j = E 77 j ∧ E' 78 j = E 78 j) → RBs true tp len T K F' E' t' p' c' → c ≤ c' → t ≤ t' → KlL (E' 76) (E' 77) (E' 78) c' N x → Q none (n, K, F', E')) : PC l G 7 mX12_readLaw bg [(2, 66)] (n, K, F, E) Q := by
  obtain ⟨⟨a1, a2, a3⟩, ⟨a4, a5⟩, a6, a7, ⟨a8, a9⟩, ⟨b1, b2⟩, b3⟩ := id h
  have k66 : (K 66).1 = 12 := h.k66
  have hl := hE.1
  have hTT := hE.2.2.1.2
  have wk0 : (F 66 16 = 1 ∧ F 66 17 = E 83 0) ↔ kd t = 273 := by
    rw [show E 83 0 = 3657363 from a3 (83, 0, 3657363) (by decide)]; exact at_word 14 (by decide) rfl hE a6 a7.1 a7.2
  have wk1 : (F 66 16 = 1 ∧ F 66 17 = E 83 1) ↔ kd t = 274 := by
    rw [show E 83 1 = 67155 from a3 (83, 1, 67155) (by decide)]; exact at_word 15 (by decide) rfl hE a6 a7.1 a7.2
  have f19 : ¬ pUp (pUp F 66 19 1) 66 18 (F 66 14) 66 19 = 0 := by rw [pUp_k (by decide), pUp_s]; decide
  have no : ∀ v, (N = 12 ∨ ¬ (273 ≤ kd t ∧ kd t ≤ 274)) → PC l G 2 mX12_must (0, 0) [(2, 66), (0, 0)] (n, K, F, E) (fun r μ => PW l G 7 mX12_readLaw bg 57 [(0, (2, 66)), (1, (0, v))] (r.toList ++ []) μ Q) := by
    intro v hv
    refine r_mustF a1 a8 (vX12_readLaw_57 66 v ⟨k66, fun y => absurd y f19, fun _ => ?_⟩)
    by_cases q : N = 12
    · have := hF (Or.inl q) _ _ (by rw [if_pos q]; exact h.bad)
      exact this
    · rcases hg (by omega) with ⟨z1, z2, z3⟩ | ⟨z1, _⟩
      · refine hF (Or.inr z2) _ _ ?_
        rw [if_neg q, z3]
        exact h.bad
      · rw [hdl_t, lal_t] at z1
        omega
  have yes : ∀ v, N < 12 → v = kd t - 273 → 0 ≤ v → v ≤ 1 → PC l G 2 mX12_must (0, 0) [(2, 66), (0, 1)] (n, K, F, E) (fun r μ => PW l G 7 mX12_readLaw bg 57 [(0, (2, 66)), (1, (0, v))] (r.toList ++ []) μ Q) := by
    intro v nl ev v0 v1
    have nn : ¬ N = 12 := by omega
    have tl := hE.lt a7.2 (by omega)
    rcases hg nl with ⟨z1, _⟩ | ⟨_, xv, hg⟩
    · rw [hdl_t, lal_t] at z1; omega
    rw [hdl_t] at xv hg
    rw [← ev] at xv hg
    refine r_mustB (by decide) hE h tl fun F1 w1 h1 => vX12_readLaw_57 66 v ?_
    have g : ∀ k, (k < 14 ∨ 17 < k) → F1 66 k = F 66 k := fun k hk => w1.2 66 k (by omega)
    have hF1 := w1.1
    rw [g 21 (by omega), h21]
    refine ⟨k66, fun _ => ⟨by omega, ?_⟩, fun y => absurd h1.2.2.2.2.1.1 y⟩
    refine r_zero75 (E := E) (by omega) (by omega) a1 hF1 8 0 E (by decide) (by decide) (fun _ _ => rfl) (fun _ _ => rfl) fun E8 r1 r2 => ?_
    have w8 : FrBk F E F1 E8 := (FrQ.v w1.r).trans ⟨fun r a _ => r1 r (by omega), hF1, fun _ _ _ => rfl⟩
    have r77 : E8 77 = E 77 := r1 77 (by decide)
    have r78 : E8 78 = E 78 := r1 78 (by decide)
    obtain ⟨_, _, e6, e7, ⟨e8, _⟩, ⟨f1, f2⟩, f3⟩ := id h1
    refine vX12_readLaw_75 66 v (8 * (N : Int)) 8 ⟨fun _ => ?_, fun z => absurd (by decide) z⟩
    simp only [hF1.f66_22, a1.k66, a1.k76, g 21 (by omega), h21, f1, e8]
    refine ⟨trivial, by decide, trivial, by omega, fun E1 g1 => ⟨by omega, fun F2 g2 => ⟨by omega, by omega, fun E3 g3 => ⟨fun z => ?_, fun z => ?_⟩⟩⟩⟩
    · -- bars
      refine ⟨by omega, by omega, fun E4 g4 => ⟨by omega, by omega, fun E5 g5 => ?_⟩⟩
      have w5 : FrBk F E F2 E5 := by rw [g2, g5, g4, g3, g1]; exact ((((w8.row (Or.inl rfl)).row (Or.inl rfl)).row (Or.inl rfl)).row (Or.inl rfl)).cl
      have k2 : ∀ k, k ≠ 21 → F2 66 k = F1 66 k := fun k q => by rw [g2, pUp_k q]
      have h5 : RBs true tp len T K F2 E5 (t + 1) p c := h.mk' w5 (e6.keep ⟨k2 14 (by decide), k2 15 (by decide), k2 16 (by decide), k2 17 (by decide), k2 18 (by decide)⟩) e7 (by rw [k2 19 (by decide)]; exact e8) ⟨by rw [k2 23 (by decide)]; exact f1, by rw [k2 26 (by decide)]; exact f2⟩ f3
      have q76 : E5 76 = rUp (rUp (rUp (rUp (E8 76) (8 * (N : Int)) v) (8 * (N : Int) + 3) c) (8 * (N : Int) + 4) c) (8 * (N : Int) + 5) c := by
        rw [g5, pUp_row, pRow1, if_pos rfl, g4, pUp_row, pRow1, if_pos rfl, g3, pUp_row, pRow1, if_pos rfl, g1, pUp_row, pRow1, if_pos rfl]
      have q77 : E5 77 = E 77 := by rw [g5, pUp_an (by decide), g4, pUp_an (by decide), g3, pUp_an (by decide), g1, pUp_an (by decide), r77]
      have q78 : E5 78 = E 78 := by rw [g5, pUp_an (by decide), g4, pUp_an (by decide), g3, pUp_an (by decide), g1, pUp_an (by decide), r78]
      have iff5 := at_word (v := 294) 23 (by decide) rfl hE h5.2.2.1 h5.2.2.2.1.1 h5.2.2.2.1.2
      have mv : mvL true v = [] := by rw [show v = 1 by omega]; decide
      rw [mv] at hg
      have hi : IfG true kd nm (t + 1) p ok t' p' x.2.2.1 := by
        rcases hg with ⟨_, p1, fs, m1, _⟩ | ⟨t1, p1, ⟨m1, m2, m3⟩, hg⟩
        · cases m1
        · rcases hg with ⟨_, _, hg⟩ | ⟨t2, hg, hi⟩
          · rcases hg with ⟨_, q, _⟩ | ⟨q, _⟩
            · cases q
            · cases q
          · rcases hg with ⟨_, _, q, _⟩ | ⟨q, _⟩
            · rw [← m2, ← m3, ← q]; exact hi
            · cases q
      have old : ∀ (R : Int → Int) (j : Int), j < 8 * (N : Int) → (∀ i, 8 * (N : Int) ≤ i → R i = R i) → E5 76 j = E 76 j := fun R j hj _ => by
        rw [q76, rUp_n (by omega), rUp_n (by omega), rUp_n (by omega), rUp_n (by omega)]; exact r2 j hj
      refine ⟨fun y => absurd trivial y, fun _ => ⟨fun y => ⟨by omega, by omega, fun E7 g7 => ?_⟩, fun y => ?_⟩⟩
      · have k0 : kd (t + 1) ≠ 282 := fun q => y (iff5.mpr q)
        rcases hi with ⟨_, i1, i2, i3, i4⟩ | ⟨q, _⟩
        · have q7 : E7 76 = rUp (E5 76) (8 * (N : Int) + 6) c := by rw [g7, pUp_row, pRow1, if_pos rfl]
          have h7 : RBs true tp len T K F2 E7 (t + 1) p c := by rw [g7]; exact h5.row (Or.inl rfl)
          rw [← i2, ← i3] at h7
          refine hT nl i1 F2 E7 c (by rw [g7]; exact w5.row (Or.inl rfl)) (by rw [g2, pUp_s]) (fun j hj => ?_) (fun j hj => ?_) h7 (by omega) (by omega) ⟨?_, ?_, ?_, fun e => ?_⟩
          · rw [q7, rUp_n (by omega)]; exact old (E 76) j hj (fun _ _ => rfl)
          · rw [g7, pUp_an (by decide), pUp_an (by decide), q77, q78]; exact ⟨rfl, rfl⟩
          · rw [q7, rUp_n (by omega), q76, rUp_n (by omega), rUp_n (by omega), rUp_n (by omega), rUp_s, xv]
          · rw [q7, rUp_s]; omega
          · rw [i4]
            show E7 76 (8 * (N : Int) + 6) ≤ E7 76 (8 * (N : Int) + 5)
            rw [q7, rUp_s, rUp_n (by omega), q76, rUp_s]
            exact Int.le_refl _
          · omega
        · exact absurd q k0
      · have k0 : kd (t + 1) = 282 := iff5.mp y
        rcases hi with ⟨q, _⟩ | ⟨_, hi⟩
        · exact absurd k0 q
        have gr : ∃ p1 f, Gr true kd nm 9 0 (t + 1 + 1) p pZ ok t' p1 f ∧ (ok = true → p1 = p' ∧ x.2.2.1 = some f) := by
          rcases hi with ⟨o1, p1, f, gr⟩ | ⟨o1, f, gr, e⟩
          · exact ⟨p1, f, by rw [o1]; exact gr, fun z => by rw [o1] at z; cases z⟩
          · exact ⟨p', f, by rw [o1]; exact gr, fun _ => ⟨rfl, e⟩⟩
        obtain ⟨p1, f, gr, ge⟩ := gr
        refine r_lawIf (x := 8 * (N : Int)) (by omega) (by omega) hE h5 k0 gr (fun o1 F7 E7 bd => hF (Or.inr o1) F7 E7 (by rw [if_neg nn]; exact bd.pre w5)) (fun o1 F7 E7 c' w7 q7 ag e21 h7 sg cc tt => ?_)
        obtain ⟨e1, e2⟩ := ge o1
        rw [e1] at h7
        have c4 := h7.2.2.2.2.2.2
        have t4 := h7.2.2.2.1
        refine hT nl o1 F7 E7 c' (w5.trans w7) (by rw [e21, g2, pUp_s]) (fun j hj => ?_) (fun j hj => by have := ag j hj; rw [q77, q78] at this; exact this) h7 (by omega) (by omega) ⟨?_, ?_, ?_, fun e => ?_⟩
        · rw [q7, rUp_n (by omega)]; exact old (E 76) j hj (fun _ _ => rfl)
        · rw [q7, rUp_n (by omega), q76, rUp_n (by omega), rUp_n (by omega), rUp_n (by omega), rUp_s, xv]
        · rw [q7, rUp_s]; omega
        · rw [e2]
          show (0 ≤ E7 76 (8 * (N : Int) + 5) ∧ E7 76 (8 * (N : Int) + 5) < E7 76 (8 * (N : Int) + 6) ∧ E7 76 (8 * (N : Int) + 6) ≤ 400) ∧ SegR 0 (E7 77) (E7 78) (E7 76 (8 * (N : Int) + 5)) (E7 76 (8 * (N : Int) + 6)) f 60 9
          rw [q7, rUp_s, rUp_n (by omega), q76, rUp_s]
          exact ⟨by omega, sg⟩
        · omega
    · -- costs
      have w3 : FrBk F E F2 E3 := by rw [g2, g3, g1]; exact ((w8.row (Or.inl rfl)).row (Or.inl rfl)).cl
      have k2 : ∀ k, k ≠ 21 → F2 66 k = F1 66 k := fun k q => by rw [g2, pUp_k q]
      have h3 : RBs true tp len T K F2 E3 (t + 1) p c := h.mk' w3 (e6.keep ⟨k2 14 (by decide), k2 15 (by decide), k2 16 (by decide), k2 17 (by decide), k2 18 (by decide)⟩) e7 (by rw [k2 19 (by decide)]; exact e8) ⟨by rw [k2 23 (by decide)]; exact f1, by rw [k2 26 (by decide)]; exact f2⟩ f3
      have q76 : E3 76 = rUp (rUp (E8 76) (8 * (N : Int)) v) (8 * (N : Int) + 3) c := by
        rw [g3, pUp_row, pRow1, if_pos rfl, g1, pUp_row, pRow1, if_pos rfl]
      have q77 : E3 77 = E 77 := by rw [g3, pUp_an (by decide), g1, pUp_an (by decide), r77]
      have q78 : E3 78 = E 78 := by rw [g3, pUp_an (by decide), g1, pUp_an (by decide), r78]
      have mv : mvL true v = [(0, 0)] := by rw [show v = 0 by omega]; decide
      rw [mv] at hg
      -- the sum
      have hs : ∃ o2 t1 p1 f, Gr true kd nm 3 0 (t + 1) p pZ o2 t1 p1 f ∧ (o2 = false → ok = false ∧ t' = t1) ∧ (o2 = true → f = x.2.2.2 0 ∧ IfG true kd nm t1 p1 ok t' p' x.2.2.1) := by
        rcases hg with ⟨o1, p1, fs, m⟩ | ⟨t1, p1, m, hg⟩
        · rcases m with ⟨_, ⟨_, p2, f, gr⟩ | ⟨t2, p2, gr, m1, m2, m3⟩⟩ | ⟨m, _⟩
          · exact ⟨false, t', p2, f, gr, fun _ => ⟨o1, rfl⟩, fun q => by cases q⟩
          · cases m1
          · exact absurd (show (0 : Int) = 1 from m) (by decide)
        · rcases m with ⟨_, ⟨m1, _⟩ | ⟨t2, p2, gr, m1, m2, m3⟩⟩ | ⟨m, _⟩
          · cases m1
          · refine ⟨true, t2, p2, x.2.2.2 0, gr, fun q => (by cases q), fun _ => ⟨rfl, ?_⟩⟩
            rcases hg with ⟨_, _, hg⟩ | ⟨t3, hg, hi⟩
            · rcases hg with ⟨_, q, _⟩ | ⟨q, _⟩
              · cases q
              · cases q
            · rcases hg with ⟨_, _, q, _⟩ | ⟨q, _⟩
              · rw [← m2, ← m3, ← q]; exact hi
              · cases q
          · exact absurd (show (0 : Int) = 1 from m) (by decide)
      obtain ⟨o2, t1, p1, f, gr, hs0, hs1⟩ := hs
      refine r_expr hE (Or.inl ⟨rfl, rfl⟩) h3 gr (fun o F4 E4 w4 s1 s2 s3 s4 => ?_) (fun o F4 E4 c1 w4 ag h4 sg cc pp tt => ?_)
      · have hF4 := w4.2.1
        refine vX12_readLaw_134 66 _ ?_
        simp only [hF4.f66_22, a1.k66, a1.k76, s1]
        refine ⟨trivial, by omega, by decide, trivial, by omega, fun E5 g5 => ⟨by omega, by omega, fun E6 g6 => ⟨fun _ => ⟨by omega, by omega, fun E7 g7 => ?_⟩, fun y => absurd y (by decide)⟩⟩⟩
        obtain ⟨o1, o3⟩ := hs0 o
        refine hF (Or.inr o1) F4 E7 ⟨?_, s1, by rw [if_neg nn, o3]; exact s2⟩
        rw [g7, g6, g5]
        exact (((w3.trans w4.v).row (Or.inl rfl)).row (Or.inl rfl)).row (Or.inl rfl)
      · have hF4 := w4.2.1
        obtain ⟨fe, hi⟩ := hs1 o
        obtain ⟨_, _, d6, d7, ⟨d8, _⟩, ⟨c23, c26⟩, c4⟩ := id h4
        refine vX12_readLaw_134 66 _ ?_
        simp only [hF4.f66_22, a1.k66, a1.k76, d8, c23]
        refine ⟨trivial, by omega, by decide, trivial, by omega, fun E5 g5 => ⟨by omega, by omega, fun E6 g6 => ?_⟩⟩
        have w6 : FrBk F E F4 E6 := by rw [g6, g5]; exact ((w3.trans w4.v).row (Or.inl rfl)).row (Or.inl rfl)
        have h6 : RBs true tp len T K F4 E6 t1 p1 c1 := by rw [g6, g5]; exact (h4.row (Or.inl rfl)).row (Or.inl rfl)
        have q6 : E6 76 = rUp (rUp (rUp (rUp (E8 76) (8 * (N : Int)) v) (8 * (N : Int) + 3) c) (8 * (N : Int) + 4) c1) (8 * (N : Int) + 5) c1 := by
          rw [g6, pUp_row, pRow1, if_pos rfl, g5, pUp_row, pRow1, if_pos rfl, w4.1 76 (by decide) (by decide) (by decide) (by decide), q76]
        have t77 : E6 77 = E4 77 := by rw [g6, pUp_an (by decide), g5, pUp_an (by decide)]
        have t78 : E6 78 = E4 78 := by rw [g6, pUp_an (by decide), g5, pUp_an (by decide)]
        have e21 : F4 66 21 = (N : Int) + 1 := by rw [w4.2.2 66 21 (by omega), g2, pUp_s]
        have old : ∀ j, j < 8 * (N : Int) → E6 76 j = E 76 j := fun j hj => by
          rw [q6, rUp_n (by omega), rUp_n (by omega), rUp_n (by omega), rUp_n (by omega)]; exact r2 j hj
        have ag6 : ∀ j, j < c → E6 77 j = E 77 j ∧ E6 78 j = E 78 j := fun j hj => by
          rw [t77, t78]; have := ag j hj; rw [q77, q78] at this; exact this
        have sg6 : SegR 0 (E6 77) (E6 78) c c1 (x.2.2.2 0) 60 9 := by rw [t77, t78, ← fe]; exact sg.wide (by omega)
        have iff6 := at_word (v := 294) 23 (by decide) rfl hE d6 d7.1 d7.2
        refine ⟨fun y => absurd trivial y, fun _ => ⟨fun y => ⟨by omega, by omega, fun E7 g7 => ?_⟩, fun y => ?_⟩⟩
        · have k0 : kd t1 ≠ 282 := fun q => y (iff6.mpr q)
          rcases hi with ⟨_, i1, i2, i3, i4⟩ | ⟨q, _⟩
          · have q7 : E7 76 = rUp (E6 76) (8 * (N : Int) + 6) c1 := by rw [g7, pUp_row, pRow1, if_pos rfl]
            have h7 : RBs true tp len T K F4 E7 t1 p1 c1 := by rw [g7]; exact h6.row (Or.inl rfl)
            rw [← i2, ← i3] at h7
            have p77 : E7 77 = E6 77 := by rw [g7, pUp_an (by decide)]
            have p78 : E7 78 = E6 78 := by rw [g7, pUp_an (by decide)]
            refine hT nl i1 F4 E7 c1 (by rw [g7]; exact w6.row (Or.inl rfl)) e21 (fun j hj => ?_) (fun j hj => ?_) h7 (by omega) (by omega) ⟨?_, ?_, ?_, fun e => ⟨?_, ?_⟩⟩
            · rw [q7, rUp_n (by omega)]; exact old j hj
            · rw [p77, p78]; exact ag6 j hj
            · rw [q7, rUp_n (by omega), q6, rUp_n (by omega), rUp_n (by omega), rUp_n (by omega), rUp_s, xv]
            · rw [q7, rUp_s]; omega
            · rw [i4]
              show E7 76 (8 * (N : Int) + 6) ≤ E7 76 (8 * (N : Int) + 5)
              rw [q7, rUp_s, rUp_n (by omega), q6, rUp_s]
              exact Int.le_refl _
            · rw [q7, rUp_n (by omega), rUp_n (by omega), q6, rUp_n (by omega), rUp_n (by omega), rUp_s, rUp_n (by omega), rUp_s]; omega
            · rw [q7, rUp_n (by omega), rUp_n (by omega), q6, rUp_n (by omega), rUp_n (by omega), rUp_s, rUp_n (by omega), rUp_s, p77, p78]; exact sg6
          · exact absurd q k0
        · have k0 : kd t1 = 282 := iff6.mp y
          rcases hi with ⟨q, _⟩ | ⟨_, hi⟩
          · exact absurd k0 q
          have gr2 : ∃ p2 g, Gr true kd nm 9 0 (t1 + 1) p1 pZ ok t' p2 g ∧ (ok = true → p2 = p' ∧ x.2.2.1 = some g) := by
            rcases hi with ⟨o1, p2, g, gr⟩ | ⟨o1, g, gr, e⟩
            · exact ⟨p2, g, by rw [o1]; exact gr, fun z => by rw [o1] at z; cases z⟩
            · exact ⟨p', g, by rw [o1]; exact gr, fun _ => ⟨rfl, e⟩⟩
          obtain ⟨p2, g', gr2, ge⟩ := gr2
          refine r_lawIf (x := 8 * (N : Int)) (by omega) (by omega) hE h6 k0 gr2 (fun o1 F7 E7 bd => hF (Or.inr o1) F7 E7 (by rw [if_neg nn]; exact bd.pre w6)) (fun o1 F7 E7 c' w7 q7 ag7 z21 h7 sg7 cc7 tt7 => ?_)
          obtain ⟨e1, e2⟩ := ge o1
          rw [e1] at h7
          have c5 := h7.2.2.2.2.2.2
          have t5 := h7.2.2.2.1
          refine hT nl o1 F7 E7 c' (w6.trans w7) (by rw [z21]; exact e21) (fun j hj => ?_) (fun j hj => ?_) h7 (by omega) (by omega) ⟨?_, ?_, ?_, fun e => ⟨?_, ?_⟩⟩
          · rw [q7, rUp_n (by omega)]; exact old j hj
          · have b7 := ag7 j (by omega)
            have b6 := ag6 j hj
            exact ⟨b7.1.trans b6.1, b7.2.trans b6.2⟩
          · rw [q7, rUp_n (by omega), q6, rUp_n (by omega), rUp_n (by omega), rUp_n (by omega), rUp_s, xv]
          · rw [q7, rUp_s]; omega
          · rw [e2]
            show (0 ≤ E7 76 (8 * (N : Int) + 5) ∧ E7 76 (8 * (N : Int) + 5) < E7 76 (8 * (N : Int) + 6) ∧ E7 76 (8 * (N : Int) + 6) ≤ 400) ∧ SegR 0 (E7 77) (E7 78) (E7 76 (8 * (N : Int) + 5)) (E7 76 (8 * (N : Int) + 6)) g' 60 9
            rw [q7, rUp_s, rUp_n (by omega), q6, rUp_s]
            exact ⟨by omega, sg7⟩
          · rw [q7, rUp_n (by omega), rUp_n (by omega), q6, rUp_n (by omega), rUp_n (by omega), rUp_s, rUp_n (by omega), rUp_s]; omega
          · rw [q7, rUp_n (by omega), rUp_n (by omega), q6, rUp_n (by omega), rUp_n (by omega), rUp_s, rUp_n (by omega), rUp_s]
            exact sg6.low (Int.le_refl _) ag7
  have s2 : ∀ v, ((v = -1 ∧ ¬ (273 ≤ kd t ∧ kd t ≤ 274)) ∨ (v = kd t - 273 ∧ 0 ≤ v ∧ v ≤ 1)) → PW l G 7 mX12_readLaw bg 4 [(0, (2, 66)), (1, (0, v)), (2, (0, 2))] [] (n, K, F, E) Q := by
    intro v hv
    refine vX12_readLaw_4 66 v 2 ⟨fun _ => ⟨fun z => ⟨k66, no v (Or.inr ?_)⟩, fun z => ⟨k66, fun y => no v (Or.inl ?_), fun y => yes v ?_ ?_ ?_ ?_⟩⟩, fun z => absurd (by decide) z⟩
    · omega
    · omega
    · omega
    · omega
    · omega
    · omega
  have s1 : ∀ v, ((v = -1 ∧ kd t ≠ 273) ∨ (v = 0 ∧ kd t = 273)) → PW l G 7 mX12_readLaw bg 4 [(0, (2, 66)), (1, (0, v)), (2, (0, 1))] [] (n, K, F, E) Q := by
    intro v hv
    refine vX12_readLaw_4 66 v 1 ⟨fun z => absurd z (by decide), fun _ => ?_⟩
    simp only [a2.f66_33, a1.k66, a1.k83]
    exact ⟨trivial, by decide, trivial, by decide, fun z => ⟨by decide, s2 v (by have : kd t ≠ 274 := fun q => z (wk1.mpr q); omega)⟩, fun z => ⟨by decide, s2 1 (by have := wk1.mp z; omega)⟩⟩
  refine vX12_readLaw_0 66 (vX12_readLaw_4 66 (-1) 0 ⟨fun z => absurd z (by decide), fun _ => ?_⟩)
  simp only [a2.f66_33, a1.k66, a1.k83]
  exact ⟨trivial, by decide, trivial, by decide, fun z => ⟨by decide, s1 (-1) (Or.inl ⟨rfl, fun q => z (wk0.mpr q)⟩)⟩, fun z => ⟨by decide, s1 0 (Or.inr ⟨rfl, wk0.mp z⟩)⟩⟩
end B
