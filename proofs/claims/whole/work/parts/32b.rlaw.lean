/-! THE REFERENCE READS a law -/
def FrEd (F E F' E' : Int → Int → Int) : Prop := (∀ r, (r < 76 ∨ 80 < r) → r ≠ 103 → E' r = E r) ∧ FS F' ∧ ∀ a k, ¬ (a = 66 ∧ ((13 ≤ k ∧ k ≤ 21) ∨ k = 23 ∨ k = 26 ∨ k = 29 ∨ k = 30)) → F' a k = F a k
theorem FrBk.ed {F E F' E' : Int → Int → Int} (h : FrBk F E F' E') : FrEd F E F' E' := ⟨h.1, h.2.1, fun a k q => h.2.2 a k (by omega)⟩
theorem FrEd.trans {F E F' E' F'' E'' : Int → Int → Int} (h : FrEd F E F' E') (h' : FrEd F' E' F'' E'') : FrEd F E F'' E'' := ⟨fun r a b => (h'.1 r a b).trans (h.1 r a b), h'.2.1, fun a k q => (h'.2.2 a k q).trans (h.2.2 a k q)⟩
theorem FrEd.fin {F E F' E' : Int → Int → Int} (h : FrEd F E F' E') : FrEd F E (pUp (pUp F' 66 20 0) 66 13 0) E' := ⟨h.1, (h.2.1.up (by decide)).up (by decide), fun a k q => by unfold pUp; rw [if_neg (by omega), if_neg (by omega)]; exact h.2.2 a k q⟩
def Rst (lw : Bool) (kd nm : Int → Int) (k c : Nat) (t1 p1 : Int) (ok : Bool) (t' : Int) (C : Nat → tKl) (M : Nat) : Prop := (kd t1 = 256 ∧ ok = true ∧ t' = t1 ∧ M = c) ∨ (kd t1 ≠ 256 ∧ kd t1 ≠ 59 ∧ ok = false ∧ t' = t1) ∨ (kd t1 = 59 ∧ TxG lw kd nm k c (t1 + 1) p1 ok t' C M)
section B
variable {l : Launch} {G : pG} {bg : Nat × Nat} {n : Nat} {K : Int → Nat × Nat} {F E : Int → Int → Int} {Q : Option pV → pM → Prop} {lw : Bool} {tp : Int → Int} {len : Int} {T : Nat} {kd nm : Int → Int} {t p c : Int}
theorem at_end (hE : TkE tp len T kd nm) (h : RBs lw tp len T K F E t p c) : F 66 16 = 0 ↔ kd t = 256 := by
  obtain ⟨_, _, a, ⟨t0, t1⟩, _⟩ := h
  rw [a.2.2.1]
  rcases hE.cases t0 t1 with c | c | c | c <;> omega
theorem r_endB (hK : KS K) (h19 : F 66 19 = 1) (hQ : Q none (n, K, pUp (pUp F 66 20 0) 66 13 0, E)) : PC l G 3 mX12_endText bg [(2, 66)] (n, K, F, E) Q :=
  vX12_endText_0 66 ⟨by rw [hK.k66], fun _ F1 f1 F2 f2 => by rw [f2, f1]; exact hQ, fun z => absurd z (by omega)⟩
theorem r_endT (hE : TkE tp len T kd nm) (h : RBs lw tp len T K F E t p c) (hk : kd t = 256) (hQ : Q none (n, K, pUp (pUp F 66 20 0) 66 13 0, E)) : PC l G 3 mX12_endText bg [(2, 66)] (n, K, F, E) Q :=
  vX12_endText_0 66 ⟨h.k66, fun z => absurd h.2.2.2.2.1.1 z, fun _ => ⟨fun _ F1 f1 F2 f2 => by rw [f2, f1]; exact hQ, fun z => absurd ((at_end hE h).mpr hk) z⟩⟩
theorem r_endF (hE : TkE tp len T kd nm) (h : RBs lw tp len T K F E t p c) (hk : kd t ≠ 256) (hQ : ∀ F', F' = pUp (pUp F 66 19 1) 66 18 (F 66 14) → Q none (n, K, pUp (pUp F' 66 20 0) 66 13 0, E)) : PC l G 3 mX12_endText bg [(2, 66)] (n, K, F, E) Q :=
  vX12_endText_0 66 ⟨h.k66, fun z => absurd h.2.2.2.2.1.1 z, fun _ => ⟨fun z => absurd ((at_end hE h).mp z) hk, fun _ => r_mustF h.1.1 h.2.2.2.2.1.1 (vX12_endText_19 66 ⟨h.k66, fun F1 f1 F2 f2 => by rw [f2, f1]; exact hQ _ rfl⟩)⟩⟩
theorem r_beginText {x : Int} (hx : x = if lw = true then 0 else 1) (hK : KS K) (hF : FS F) (hS : ES E) (hE : TkE (E 75) len T kd nm) (h13 : F 66 13 = len) (hQ : ∀ F', FrEd F E F' E → RBs lw (E 75) len T K F' E 0 0 0 → F' 66 21 = 0 → Q none (n, K, F', E)) : PC l G 3 mX12_beginText bg [(2, 66), (0, x)] (n, K, F, E) Q := by
  refine vX12_beginText_0 66 x ⟨by rw [hK.k66], by rw [hx]; split <;> omega, fun F1 f1 => vX12_begin_0 66 ⟨by rw [hK.k66], fun F2 f2 F3 f3 F4 f4 => ?_⟩⟩
  have hF4 : FS F4 := by rw [f4, f3, f2, f1]; exact (((hF.up (by decide)).up (by decide)).up (by decide)).up (by decide)
  have k4 : ∀ a k, ¬ (a = 66 ∧ (k = 20 ∨ k = 15 ∨ k = 19 ∨ k = 18)) → F4 a k = F a k := fun a k q => by
    rw [f4, f3, f2, f1]
    unfold pUp
    rw [if_neg (by omega), if_neg (by omega), if_neg (by omega), if_neg (by omega)]
  have v20 : F4 66 20 = x := by rw [f4, pUp_k (by decide), f3, pUp_k (by decide), f2, pUp_k (by decide), f1, pUp_s]
  have v15 : F4 66 15 = 0 := by rw [f4, pUp_k (by decide), f3, pUp_k (by decide), f2, pUp_s]
  have v19 : F4 66 19 = 0 := by rw [f4, pUp_k (by decide), f3, pUp_s]
  have v18 : F4 66 18 = -1 := by rw [f4, pUp_s]
  refine r_next hK hF4 hE.1 hE.2.1 (by rw [k4 66 13 (by omega)]; exact h13) v15 (by decide) hE.1.1 fun F5 w5 a1 a2 a3 a4 => vX12_begin_19 (vX12_beginText_9 66 ⟨by rw [hK.k66], fun F6 f6 F7 f7 F8 f8 => ?_⟩)
  have hF8 : FS F8 := by rw [f8, f7, f6]; exact ((w5.1.up (by decide)).up (by decide)).up (by decide)
  have k8 : ∀ k, k ≠ 21 → k ≠ 23 → k ≠ 26 → F8 66 k = F5 66 k := fun k q1 q2 q3 => by rw [f8, pUp_k q3, f7, pUp_k q2, f6, pUp_k q1]
  have g5 : ∀ k, (k < 14 ∨ 17 < k) → F5 66 k = F4 66 k := fun k hk => w5.2 66 k (by omega)
  have wr : FrEd F E F8 E := ⟨fun _ _ _ => rfl, hF8, fun a k q => by
    rw [f8, f7, f6]
    unfold pUp
    rw [if_neg (by omega), if_neg (by omega), if_neg (by omega), w5.2 a k (by omega), k4 a k (by omega)]⟩
  refine hQ F8 wr ⟨⟨hK, hF8, hS⟩, ⟨?_, rfl⟩, ⟨?_, ?_, ?_, ?_, ?_⟩, ⟨by decide, by omega⟩, ⟨?_, ?_⟩, ⟨?_, ?_⟩, by decide⟩ ?_
  · rw [k8 13 (by decide) (by decide) (by decide), g5 13 (by omega), k4 66 13 (by omega)]; exact h13
  · rw [k8 14 (by decide) (by decide) (by decide)]; exact a1
  · rw [k8 15 (by decide) (by decide) (by decide)]; exact a2
  · rw [k8 16 (by decide) (by decide) (by decide)]; exact a3
  · rw [k8 17 (by decide) (by decide) (by decide)]; exact a4
  · rw [k8 18 (by decide) (by decide) (by decide), g5 18 (by omega)]; exact v18
  · rw [k8 19 (by decide) (by decide) (by decide), g5 19 (by omega)]; exact v19
  · rw [k8 20 (by decide) (by decide) (by decide), g5 20 (by omega), v20, hx]
  · rw [f8, pUp_k (by decide), f7, pUp_s]
  · rw [f8, pUp_s]
  · rw [f8, pUp_k (by decide), f7, pUp_k (by decide), f6, pUp_s]
theorem r_lawCl {k N M : Nat} {ok : Bool} {t' : Int} {C : Nat → tKl} (hE : TkE tp len T kd nm) (h : RBs true tp len T K F E t p c) (h21 : F 66 21 = (N : Int)) (nk : N + k = 12) (hC : ∀ c' : Nat, c' < N → KlL (E 76) (E 77) (E 78) c c' (C c')) (tx : TxG true kd nm k N t p ok t' C M)
    (hF : ok = false → ∀ F' E', BdR tp len F E t' F' E' → Q none (n, K, F', E'))
    (hT : ∀ F' E' t1 p1 c1 (k' : Nat), k = k' + 1 → FrBk F E F' E' → RBs true tp len T K F' E' t1 p1 c1 → F' 66 21 = ((N + 1 : Nat) : Int) → (∀ c' : Nat, c' < N + 1 → KlL (E' 76) (E' 77) (E' 78) c1 c' (C c')) → Rst true kd nm k' (N + 1) t1 p1 ok t' C M → Q none (n, K, F', E')) : PC l G 7 mX12_readLaw bg [(2, 66)] (n, K, F, E) Q := by
  have hl := hE.1
  have hTT := hE.2.2.1.2
  cases k with
  | zero =>
    obtain ⟨z1, z2⟩ := tx
    have n12 : N = 12 := by omega
    refine r_readLaw (ok := false) (t' := t) (p' := p) (x := C 0) hE h h21 (by omega) (fun q => absurd q (by omega)) (fun _ F' E' bd => hF z1 F' E' ?_) (fun q => absurd q (by omega))
    rw [if_pos n12] at bd
    rw [z2]
    exact bd
  | succ k =>
    have nn : ¬ N = 12 := by omega
    rcases tx with ⟨o1, p1, x, cl⟩ | ⟨t1, p1, cl, rs⟩
    · refine r_readLaw hE h h21 (by omega) (fun _ => cl) (fun _ F' E' bd => hF o1 F' E' ?_) (fun _ q => by cases q)
      rw [if_neg nn] at bd
      exact bd
    · refine r_readLaw hE h h21 (by omega) (fun _ => cl) (fun q => ?_) (fun _ _ F' E' c1 w e21 e76 ag h1 cc tt kl => ?_)
      · rcases q with q | q
        · exact absurd q nn
        · cases q
      · have t4 := h1.2.2.2.1
        have c4 := h1.2.2.2.2.2.2
        refine hT F' E' t1 p1 c1 k rfl w h1 (by rw [e21]; omega) (fun c' hc => ?_) rs
        by_cases q : c' = N
        · subst q; exact kl
        · exact (hC c' (by omega)).grow (fun j j0 j1 => e76 j (by omega)) ag cc (by omega)
theorem r_law_37 {ok : Bool} {t' : Int} {C : Nat → tKl} {M : Nat} (hE : TkE tp len T kd nm) (k : Nat) : ∀ (N : Nat) (t p c : Int) (F E : Int → Int → Int), N + k = 12 → RBs true tp len T K F E t p c → F 66 21 = (N : Int) → (∀ c' : Nat, c' < N → KlL (E 76) (E 77) (E 78) c c' (C c')) → Rst true kd nm k N t p ok t' C M →
    (ok = false → ∀ F' E', FrEd F E F' E' → F' 66 19 = 1 → F' 66 18 = tB tp len t' → F' 66 13 = 0 → F' 66 20 = 0 → PW l G 8 mX12_law bg 68 [(0, (2, 66))] [] (n, K, F', E') Q) →
    (ok = true → ∀ F' E', FrEd F E F' E' → F' 66 19 = 0 → F' 66 18 = -1 → F' 66 13 = 0 → F' 66 20 = 0 → F' 66 21 = (M : Int) → M ≤ 12 → (0 ≤ F' 66 23 ∧ F' 66 23 ≤ 400) → (∀ c' : Nat, c' < M → KlL (E' 76) (E' 77) (E' 78) (F' 66 23) c' (C c')) → PW l G 8 mX12_law bg 68 [(0, (2, 66))] [] (n, K, F', E') Q) →
    PW l G 8 mX12_law bg 37 [(0, (2, 66))] [] (n, K, F, E) Q := by
  have hl := hE.1
  have hTT := hE.2.2.1.2
  induction k with
  | zero =>
    intro N t p c F E nk h h21 hC rs hF hT
    have sgn := at_sign (s := 59) hE h.2.2.1 h.2.2.2.1.1 h.2.2.2.1.2 (by decide)
    have h19 := h.2.2.2.2.1.1
    refine vX12_law_37 66 ⟨h.k66, fun z => absurd h19 z, fun _ => ⟨fun z => ?_, fun z => ?_⟩⟩
    · have k59 : kd t ≠ 59 := fun q => z (sgn.mpr q)
      rcases rs with ⟨r1, r2, r3, r4⟩ | ⟨r1, _, r3, r4⟩ | ⟨q, _⟩
      · subst r4
        refine r_endT hE h r1 (hT r2 _ _ (FrBk.refl h.1.2.1).ed.fin ?_ ?_ pUp_s ?_ ?_ (by omega) ?_ ?_)
        · rw [pUp_k (by decide), pUp_k (by decide)]; exact h19
        · rw [pUp_k (by decide), pUp_k (by decide)]; exact h.2.2.1.2.2.2.2
        · rw [pUp_k (by decide), pUp_s]
        · rw [pUp_k (by decide), pUp_k (by decide)]; exact h21
        · rw [pUp_k (by decide), pUp_k (by decide), h.2.2.2.2.2.1.1]
          have := h.2.2.2.2.2.2; have := h.2.2.2.1; omega
        · rw [pUp_k (by decide), pUp_k (by decide), h.2.2.2.2.2.1.1]; exact hC
      · refine r_endF hE h r1 fun F' f' => ?_
        have bd := h.bad
        rw [← f'] at bd
        rw [← r4] at bd
        refine hF r3 _ _ bd.1.ed.fin ?_ ?_ pUp_s ?_
        · rw [pUp_k (by decide), pUp_k (by decide)]; exact bd.2.1
        · rw [pUp_k (by decide), pUp_k (by decide)]; exact bd.2.2
        · rw [pUp_k (by decide), pUp_s]
      · exact absurd q k59
    · have k59 := sgn.mp z
      rcases rs with ⟨r1, _⟩ | ⟨_, r1, _⟩ | ⟨_, tx⟩
      · omega
      · exact absurd k59 r1
      refine r_nextB hE h (hE.lt h.2.2.2.1.2 (by omega)) fun F1 w1 h1 => vX12_law_57 66 ⟨h.k66, ?_⟩
      refine r_lawCl (N := N) hE h1 (by rw [w1.2 66 21 (by omega)]; exact h21) nk hC tx (fun o F2 E2 bd => vX12_law_61 66 (vX12_law_37 66 ⟨h.k66, fun _ => r_endB h.1.1 bd.2.1 ?_, fun q => absurd q (by rw [bd.2.1]; decide)⟩)) (fun F2 E2 t1 p1 c1 k' e => by cases e)
      refine hF o _ _ (((FrQ.v w1.r).trans bd.1).ed.fin) ?_ ?_ pUp_s ?_
      · rw [pUp_k (by decide), pUp_k (by decide)]; exact bd.2.1
      · rw [pUp_k (by decide), pUp_k (by decide)]; exact bd.2.2
      · rw [pUp_k (by decide), pUp_s]
  | succ k ih =>
    intro N t p c F E nk h h21 hC rs hF hT
    have sgn := at_sign (s := 59) hE h.2.2.1 h.2.2.2.1.1 h.2.2.2.1.2 (by decide)
    have h19 := h.2.2.2.2.1.1
    refine vX12_law_37 66 ⟨h.k66, fun z => absurd h19 z, fun _ => ⟨fun z => ?_, fun z => ?_⟩⟩
    · have k59 : kd t ≠ 59 := fun q => z (sgn.mpr q)
      rcases rs with ⟨r1, r2, r3, r4⟩ | ⟨r1, _, r3, r4⟩ | ⟨q, _⟩
      · subst r4
        refine r_endT hE h r1 (hT r2 _ _ (FrBk.refl h.1.2.1).ed.fin ?_ ?_ pUp_s ?_ ?_ (by omega) ?_ ?_)
        · rw [pUp_k (by decide), pUp_k (by decide)]; exact h19
        · rw [pUp_k (by decide), pUp_k (by decide)]; exact h.2.2.1.2.2.2.2
        · rw [pUp_k (by decide), pUp_s]
        · rw [pUp_k (by decide), pUp_k (by decide)]; exact h21
        · rw [pUp_k (by decide), pUp_k (by decide), h.2.2.2.2.2.1.1]
          have := h.2.2.2.2.2.2; have := h.2.2.2.1; omega
        · rw [pUp_k (by decide), pUp_k (by decide), h.2.2.2.2.2.1.1]; exact hC
      · refine r_endF hE h r1 fun F' f' => ?_
        have bd := h.bad
        rw [← f'] at bd
        rw [← r4] at bd
        refine hF r3 _ _ bd.1.ed.fin ?_ ?_ pUp_s ?_
        · rw [pUp_k (by decide), pUp_k (by decide)]; exact bd.2.1
        · rw [pUp_k (by decide), pUp_k (by decide)]; exact bd.2.2
        · rw [pUp_k (by decide), pUp_s]
      · exact absurd q k59
    · have k59 := sgn.mp z
      rcases rs with ⟨r1, _⟩ | ⟨_, r1, _⟩ | ⟨_, tx⟩
      · omega
      · exact absurd k59 r1
      refine r_nextB hE h (hE.lt h.2.2.2.1.2 (by omega)) fun F1 w1 h1 => vX12_law_57 66 ⟨h.k66, ?_⟩
      refine r_lawCl (N := N) hE h1 (by rw [w1.2 66 21 (by omega)]; exact h21) nk hC tx (fun o F2 E2 bd => vX12_law_61 66 (vX12_law_37 66 ⟨h.k66, fun _ => r_endB h.1.1 bd.2.1 ?_, fun q => absurd q (by rw [bd.2.1]; decide)⟩)) (fun F2 E2 t1 p1 c1 k' e w2 h2 e21 hC2 rs2 => vX12_law_61 66 ?_)
      · refine hF o _ _ (((FrQ.v w1.r).trans bd.1).ed.fin) ?_ ?_ pUp_s ?_
        · rw [pUp_k (by decide), pUp_k (by decide)]; exact bd.2.1
        · rw [pUp_k (by decide), pUp_k (by decide)]; exact bd.2.2
        · rw [pUp_k (by decide), pUp_s]
      · have e' : k = k' := by omega
        subst e'
        have we := ((FrQ.v w1.r).trans w2).ed
        exact ih (N + 1) t1 p1 c1 F2 E2 (by omega) h2 e21 hC2 rs2 (fun o F' E' w a1 a2 a3 a4 => hF o F' E' (we.trans w) a1 a2 a3 a4) (fun o F' E' w a1 a2 a3 a4 a5 a6 a7 a8 => hT o F' E' (we.trans w) a1 a2 a3 a4 a5 a6 a7 a8)
/-- the whole text of a law, from its first clause on -/
theorem r_law_33 {ok : Bool} {t' : Int} {C : Nat → tKl} {M : Nat} (hE : TkE tp len T kd nm) (h : RBs true tp len T K F E 0 0 0) (h21 : F 66 21 = 0) (tx : TxG true kd nm 12 0 0 0 ok t' C M)
    (hF : ok = false → ∀ F' E', FrEd F E F' E' → F' 66 19 = 1 → F' 66 18 = tB tp len t' → F' 66 13 = 0 → F' 66 20 = 0 → PW l G 8 mX12_law bg 68 [(0, (2, 66))] [] (n, K, F', E') Q)
    (hT : ok = true → ∀ F' E', FrEd F E F' E' → F' 66 19 = 0 → F' 66 18 = -1 → F' 66 13 = 0 → F' 66 20 = 0 → F' 66 21 = (M : Int) → M ≤ 12 → (0 ≤ F' 66 23 ∧ F' 66 23 ≤ 400) → (∀ c' : Nat, c' < M → KlL (E' 76) (E' 77) (E' 78) (F' 66 23) c' (C c')) → PW l G 8 mX12_law bg 68 [(0, (2, 66))] [] (n, K, F', E') Q) : PW l G 8 mX12_law bg 33 [(0, (2, 66))] [] (n, K, F, E) Q := by
  refine vX12_law_33 66 ⟨h.k66, ?_⟩
  refine r_lawCl (N := 0) hE h h21 (by decide) (fun c' q => absurd q (by omega)) tx (fun o F2 E2 bd => vX12_law_37 66 ⟨h.k66, fun _ => r_endB h.1.1 bd.2.1 ?_, fun q => absurd q (by rw [bd.2.1]; decide)⟩) (fun F2 E2 t1 p1 c1 k' e w2 h2 e21 hC2 rs2 => ?_)
  · refine hF o _ _ (bd.1.ed.fin) ?_ ?_ pUp_s ?_
    · rw [pUp_k (by decide), pUp_k (by decide)]; exact bd.2.1
    · rw [pUp_k (by decide), pUp_k (by decide)]; exact bd.2.2
    · rw [pUp_k (by decide), pUp_s]
  · have e' : k' = 11 := by omega
    subst e'
    exact r_law_37 hE 11 1 t1 p1 c1 F2 E2 (by decide) h2 e21 hC2 rs2 (fun o F' E' w a1 a2 a3 a4 => hF o F' E' (w2.ed.trans w) a1 a2 a3 a4) (fun o F' E' w a1 a2 a3 a4 a5 a6 a7 a8 => hT o F' E' (w2.ed.trans w) a1 a2 a3 a4 a5 a6 a7 a8)
end B
