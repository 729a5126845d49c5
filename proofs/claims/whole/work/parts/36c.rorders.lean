/-! ORDERS in the reference: all of them -/
section R
variable {l : Launch} {G : pG} {bg : Nat × Nat} {n : Nat} {K : Int → Nat × Nat} {Q : Option pV → pM → Prop} {L : Option tLaw} {mood bud x1 : Int} {g : Int → Int}
theorem FrRu.klo {F E F' E' : Int → Int → Int} {e c : Int} {x : tKl} (w : FrRu F E F' E') (h : KlO (E 103) (E 77) (E 78) e c x) : KlO (E' 103) (E' 77) (E' 78) e c x := by
  rw [w.1 103 (by decide) (by decide) (by decide) (by decide), w.1 77 (by decide) (by decide) (by decide) (by decide), w.1 78 (by decide) (by decide) (by decide) (by decide)]
  exact h
theorem r_orders_91 {N : Nat} {e : Int} {x : tKl} (n12 : N < 12) (hK : KS K) (hko : KOk false x) (ph : ∀ j, 0 ≤ j → j < 3 → j < nSm false x.1 → PhOk (x.2.2.2 j) 12) (ht : ∀ f, x.2.2.1 = some f → Tst f) (hl : LawF g L) (hlo : LwOk L) (hm : g 5 = mood) (m0 : 0 ≤ mood ∧ mood ≤ 9) (hbu : g 3 = bud) (m : Nat) : ∀ (i B : Int) (s : tOr) (F E : Int → Int → Int), i + m = x.2.1 → 0 ≤ i → FS F → RO g F E s → SOk B s → B + m ≤ 1000 → KlO (E 103) (E 77) (E 78) e N x →
    (oRep L mood bud x m s = none → ∀ F' E', FrRu F E F' E' → PC l G 1 mX12_giveBack (0, 0) [(2, 66), (0, x1)] (n, K, F', E') (fun r μ => PW l G 10 mX12_orders bg 123 [(0, (2, 66)), (2, (0, (N : Int)))] (r.toList ++ []) μ Q)) →
    (∀ s', oRep L mood bud x m s = some s' → ∀ F' E', FrRu F E F' E' → RO g F' E' s' → PW l G 10 mX12_orders bg 81 [(0, (2, 66)), (1, (0, x1)), (2, (0, (N : Int) + 1))] [] (n, K, F', E') Q) →
    PW l G 10 mX12_orders bg 91 [(0, (2, 66)), (1, (0, x1)), (2, (0, (N : Int))), (3, (0, i))] [] (n, K, F, E) Q := by
  have kr : 0 ≤ x.1 ∧ x.1 ≤ 3 := by have := hko.1; rw [lal_f] at this; exact this
  have tr := hko.2.1
  induction m with
  | zero =>
    intro i B s F E ei i0 hF h so b1 kl hN hS
    refine vX12_orders_91 66 x1 N i ?_
    simp only [hF.f66_67, hK.k66, hK.k103, kl.2.1]
    exact ⟨trivial, by omega, by omega, trivial, by omega, fun _ => ⟨by omega, hS s rfl F E (FrRu.refl hF) h⟩, fun z => absurd (by omega) z⟩
  | succ m ih =>
    intro i B s F E ei i0 hF h so b1 kl hN hS
    refine vX12_orders_91 66 x1 N i ?_
    simp only [hF.f66_67, hK.k66, hK.k103, kl.2.1]
    refine ⟨trivial, by omega, by omega, trivial, by omega, fun z => absurd z (by omega), fun _ => ?_⟩
    refine r_run (x := x) (s := s) (e := e) (B := B) n12 hK hF h so (by omega) hko kl ph ht hl hlo hm m0 hbu (fun o F1 E1 v v0 w => vX12_orders_115 66 x1 N i v ⟨fun z => absurd z (by omega), fun _ => ⟨by rw [hK.k66], hN (oRep_n o) F1 E1 w⟩⟩) (fun s1 o F1 E1 w h1 => vX12_orders_115 66 x1 N i 0 ⟨fun _ => ⟨by omega, ?_⟩, fun z => absurd (by decide) z⟩)
    exact ih (i + 1) (B + 1) s1 F1 E1 (by omega) (by omega) w.2.1 h1 (oOne_ok kr so o) (by omega) (w.klo kl) (fun q F2 E2 w2 => hN (by rw [oRep_s o]; exact q) F2 E2 (w.trans w2)) (fun s2 q F2 E2 w2 => hS s2 (by rw [oRep_s o]; exact q) F2 E2 (w.trans w2))
theorem r_orders_81 {N : Nat} {e : Int} {C : Nat → tKl} (n12 : N ≤ 12) (hK : KS K) (hko : ∀ c, c < N → KOk false (C c)) (ph : ∀ c, c < N → ∀ j, 0 ≤ j → j < 3 → j < nSm false (C c).1 → PhOk ((C c).2.2.2 j) 12) (ht : ∀ c, c < N → ∀ f, (C c).2.2.1 = some f → Tst f) (hl : LawF g L) (hlo : LwOk L) (hm : g 5 = mood) (m0 : 0 ≤ mood ∧ mood ≤ 9) (hbu : g 3 = bud) (k : Nat) : ∀ (c : Nat) (s : tOr) (F E : Int → Int → Int), c + k = N → FS F → RO g F E s → SOk (20 * c) s → F 66 21 = (N : Int) → (∀ c' : Nat, c' < N → KlO (E 103) (E 77) (E 78) e c' (C c')) →
    ((oAll L mood bud C k c s).1 = none → ∀ F' E', FrRu F E F' E' → PC l G 1 mX12_giveBack (0, 0) [(2, 66), (0, x1)] (n, K, F', E') (fun r μ => PW l G 10 mX12_orders bg 123 [(0, (2, 66)), (2, (0, (oAll L mood bud C k c s).2))] (r.toList ++ []) μ Q)) →
    (∀ s', (oAll L mood bud C k c s).1 = some s' → SOk (20 * N) s' → ∀ F' E', FrRu F E F' E' → RO g F' E' s' → PC l G 0 mX12_tell (0, 0) [(2, 66), (0, s'.2.2.1)] (n, K, F', E') (fun r μ => PW l G 10 mX12_orders bg 155 [] (r.toList ++ []) μ Q)) →
    PW l G 10 mX12_orders bg 81 [(0, (2, 66)), (1, (0, x1)), (2, (0, (c : Int)))] [] (n, K, F, E) Q := by
  induction k with
  | zero =>
    intro c s F E ec hF h so h21 kl hN hS
    have q := hS s rfl (so.up (by omega)) F E (FrRu.refl hF) h
    refine vX12_orders_81 66 x1 c ?_
    rw [h21, h.2.2.2.1]
    exact ⟨by rw [hK.k66], fun _ => q, fun z => absurd (by omega) z⟩
  | succ k ih =>
    intro c s F E ec hF h so h21 kl hN hS
    have ko := hko c (by omega)
    have kr : 0 ≤ (C c).1 ∧ (C c).1 ≤ 3 := by have := ko.1; rw [lal_f] at this; exact this
    have tr := ko.2.1
    refine vX12_orders_81 66 x1 c ?_
    rw [h21]
    refine ⟨by rw [hK.k66], fun z => absurd z (by omega), fun _ => ?_⟩
    refine r_orders_91 (x := C c) (e := e) (L := L) (mood := mood) (bud := bud) (g := g) (by omega) hK ko (ph c (by omega)) (ht c (by omega)) hl hlo hm m0 hbu (C c).2.1.toNat 0 (20 * (c : Int)) s F E (by omega) (by decide) hF h so (by omega) (kl c (by omega)) (fun o F1 E1 w1 => ?_) (fun s1 o F1 E1 w1 h1 => ?_)
    · have q := hN (by rw [oAll_n o]) F1 E1 w1
      rw [oAll_n o] at q
      exact q
    · have so1 := oRep_ok kr _ so o
      have z := ih (c + 1) s1 F1 E1 (by omega) w1.2.1 h1 (so1.up (by omega)) (by rw [w1.2.2.1 66 21 (by omega)]; exact h21) (fun c' hc => w1.klo (kl c' hc)) (fun q F2 E2 w2 => by have := hN (by rw [oAll_s o]; exact q) F2 E2 (w1.trans w2); rw [oAll_s o] at this; exact this) (fun s2 q sk F2 E2 w2 => hS s2 (by rw [oAll_s o]; exact q) sk F2 E2 (w1.trans w2))
      rw [show ((c + 1 : Nat) : Int) = (c : Int) + 1 by omega] at z
      exact z
end R
