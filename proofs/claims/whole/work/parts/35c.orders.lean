/-! ORDERS in the class: all clauses -/
section C
variable {l : Launch} {G : pG} {bg : Nat × Nat} {n : Nat} {K : Int → Nat × Nat} {Q : Option pV → pM → Prop} {L : Option tLaw} {mood bud : Int}
theorem oRep_ok {x : tKl} (hk : 0 ≤ x.1 ∧ x.1 ≤ 3) (m : Nat) : ∀ {B : Int} {s s' : tOr}, SOk B s → oRep L mood bud x m s = some s' → SOk (B + m) s' := by
  induction m with
  | zero =>
    intro B s s' h e
    have e' : some s = some s' := e
    injection e' with e'
    rw [← e', show B + ((0 : Nat) : Int) = B by omega]
    exact h
  | succ m ih =>
    intro B s s' h e
    cases o : oOne L mood bud x s with
    | none => rw [oRep_n o] at e; cases e
    | some s1 =>
      rw [oRep_s o] at e
      have q := ih (oOne_ok hk h o) e
      rw [show B + ((m + 1 : Nat) : Int) = B + 1 + m by omega]
      exact q
theorem oAll_n {C : Nat → tKl} {k c : Nat} {s : tOr} (h : oRep L mood bud (C c) (C c).2.1.toNat s = none) : oAll L mood bud C (k + 1) c s = (none, (c : Int)) := by
  show (match oRep L mood bud (C c) (C c).2.1.toNat s with | none => (none, (c : Int)) | some s' => oAll L mood bud C k (c + 1) s') = _
  rw [h]
theorem oAll_s {C : Nat → tKl} {k c : Nat} {s s' : tOr} (h : oRep L mood bud (C c) (C c).2.1.toNat s = some s') : oAll L mood bud C (k + 1) c s = oAll L mood bud C k (c + 1) s' := by
  show (match oRep L mood bud (C c) (C c).2.1.toNat s with | none => (none, (c : Int)) | some s' => oAll L mood bud C k (c + 1) s') = _
  rw [h]
theorem SOk.up {B B' : Int} {s : tOr} (h : SOk B s) (b : B ≤ B') : SOk B' s := ⟨h.1, h.2.1, by have := h.2.2.1; omega, h.2.2.2⟩
theorem c_orders_77 {C : Nat → tKl} {N : Nat} (hK : KS K) (n12 : N ≤ 12) (hko : ∀ c, c < N → KOk false (C c)) (hm : 0 ≤ mood ∧ mood ≤ 9) (k : Nat) : ∀ (c : Nat) (s : tOr) (F E : Int → Int → Int), c + k = N → FS F → CO F E s → SOk (20 * c) s → F 44 5 = -1 → F 27 2 = (N : Int) → (∀ c' : Nat, c' < N → KlC false (E 28) (E 29) (F 27 3) c' (C c')) → F 27 3 ≤ 800 → LwC K F E L → E 4 2 = mood → E 4 0 = bud →
    ((oAll L mood bud C k c s).1 = none → ∀ F' E', FrCo F E F' E' → F' 44 5 = (oAll L mood bud C k c s).2 → ∀ E1, E1 = pRow E' 3 (pCpy E' 17 0 3 0 117) → PC l G 0 mX3_copy (0, 0) [(2, 10), (2, 13)] (n, K, F', E1) (fun r μ => PW l G 83 mX11_orders bg 156 [(0, (2, 0))] (r.toList ++ []) μ Q)) →
    (∀ s', (oAll L mood bud C k c s).1 = some s' → SOk (20 * N) s' → ∀ F' E', FrCo F E F' E' → F' 44 5 = -1 → CO F' E' s' → ∀ F2, F2 = pUp F' 0 16 0 → Q (some (0, s'.2.2.1)) (n, K, F2, E')) →
    PW l G 83 mX11_orders bg 77 [(0, (2, 0)), (1, (2, 27)), (2, (0, (c : Int)))] [] (n, K, F, E) Q := by
  induction k with
  | zero =>
    intro c s F E e hF co so h5 h2 kl l8 lw e4 e5 hN hS
    have q := hS s rfl (so.up (by omega)) F E (FrCo.refl hF) h5 co
    have d3 := co.2.2.2.1
    refine vX11_orders_77 0 27 c ?_
    simp only [hF.f0_12, hK.k0, hK.k27, hK.k44, h5, h2, d3]
    exact ⟨trivial, fun _ => ⟨trivial, trivial, fun z => absurd trivial z, fun _ => q⟩, fun z => absurd (by omega) z⟩
  | succ k ih =>
    intro c s F E e hF co so h5 h2 kl l8 lw e4 e5 hN hS
    have ko := hko c (by omega)
    have kr : 0 ≤ (C c).1 ∧ (C c).1 ≤ 3 := by have := ko.1; rw [lal_f] at this; exact this
    have tr := ko.2.1
    have tm : E 28 ((c : Int) * 6 + 1) = (C c).2.1 := (kl c (by omega)).2.1
    refine vX11_orders_77 0 27 c ?_
    simp only [hF.f0_12, hK.k0, hK.k27, hK.k44, h5, h2]
    refine ⟨trivial, fun z => absurd z (by omega), fun _ => ⟨trivial, trivial, fun z => absurd trivial z, fun _ => ?_⟩⟩
    refine vX11_runClause_0 0 27 c ?_
    simp only [hF.f0_12, hF.f27_0, hF.f44_2, hK.k0, hK.k27, hK.k28, hK.k44, tm]
    refine ⟨trivial, trivial, trivial, by omega, by omega, trivial, by omega, ?_⟩
    refine c_run_19 (x := C c) (L := L) (mood := mood) (bud := bud) hK (by omega) (by omega) ko hm (C c).2.1.toNat 0 (20 * (c : Int)) s F E (by omega) (by decide) hF co so (by omega) h5 (kl c (by omega)) l8 lw e4 e5 (fun o F1 E1 w1 v5 => ?_) (fun s1 o F1 E1 w1 v5 co1 => ?_)
    · -- it stops
      have q := hN (by rw [oAll_n o]) F1 E1 w1 (by rw [oAll_n o]; exact v5)
      have hF1 := w1.2.1
      have f27 : F1 27 2 = (N : Int) := by rw [w1.2.2 27 2 (by decide) (by omega) (by omega)]; exact h2
      refine vX11_orders_102 0 27 c ⟨by omega, vX11_orders_77 0 27 _ ?_⟩
      simp only [hF1.f0_0, hF1.f0_3, hF1.f0_4, hF1.f0_5, hF1.f0_12, hF1.f1_0, hF1.f2_0, hF1.f16_0, hK.k0, hK.k1, hK.k2, hK.k3, hK.k10, hK.k16, hK.k17, hK.k27, hK.k44, v5, f27]
      refine ⟨trivial, fun z => ⟨trivial, trivial, fun _ => ⟨trivial, trivial, trivial, by decide, trivial, by decide, trivial, by decide, fun E2 e2 => ⟨trivial, q E2 e2⟩⟩, fun y => absurd y (by omega)⟩, fun z => ⟨trivial, trivial, fun _ => ⟨fun _ => ⟨trivial, trivial, trivial, by decide, trivial, by decide, trivial, by decide, fun E2 e2 => ⟨trivial, q E2 e2⟩⟩, fun y => absurd y (by omega)⟩, fun y => absurd y (by omega)⟩⟩
    · have so1 := oRep_ok kr _ so o
      have e28 : E1 28 = E 28 := w1.1 28 (by decide) (by decide) (by decide) (by decide) (by decide) (by decide) (by decide) (by decide) (by decide)
      have e29 : E1 29 = E 29 := w1.1 29 (by decide) (by decide) (by decide) (by decide) (by decide) (by decide) (by decide) (by decide) (by decide)
      have e44 : E1 4 = E 4 := w1.1 4 (by decide) (by decide) (by decide) (by decide) (by decide) (by decide) (by decide) (by decide) (by decide)
      have f27 : ∀ j, F1 27 j = F 27 j := fun j => w1.2.2 27 j (by decide) (by omega) (by omega)
      refine vX11_orders_102 0 27 c ⟨by omega, ?_⟩
      have z := ih (c + 1) s1 F1 E1 (by omega) w1.2.1 co1 (so1.up (by omega)) v5 (by rw [f27]; exact h2) (fun c' hc => by rw [e28, e29, f27]; exact kl c' hc) (by rw [f27]; exact l8) (w1.lw lw) (by rw [e44]; exact e4) (by rw [e44]; exact e5) (fun q F2 E2 w2 v2 => hN (by rw [oAll_s o]; exact q) F2 E2 (w1.trans w2) (by rw [oAll_s o]; exact v2)) (fun s2 q sk F2 E2 w2 => hS s2 (by rw [oAll_s o]; exact q) sk F2 E2 (w1.trans w2))
      rw [show ((c + 1 : Nat) : Int) = (c : Int) + 1 by omega] at z
      exact z
end C
