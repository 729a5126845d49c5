/-! WHAT WAS SEEN: which tuples it can be; the pair canBe -/
/-- a fact of a tuple -/
def fct (c : Int → Int) (r t f : Int) : Int := if f = 0 then r else c (36 + (r * 9 + t) * 3 + (f - 1))
/-- a tuple agrees with what was seen -/
def agP (c f1 f2 : Int → Int) (s : Int) (r t : Int) : Prop := ∀ k, 0 ≤ k → k < s → fct c r t (f1 k) = f2 k
noncomputable def agI (c f1 f2 : Int → Int) (s : Int) (r t : Int) : Int := bI (agP c f1 f2 s r t)
/-- what Inv says of the core and what was seen, as both sides look at it -/
def SeenOk (c f1 f2 : Int → Int) (s : Int) : Prop := (0 ≤ s ∧ s ≤ 6) ∧ (∀ k, 0 ≤ k → k < s → (0 ≤ f1 k ∧ f1 k ≤ 2) ∧ 0 ≤ f2 k ∧ f2 k ≤ 9) ∧ CInv c
section S
variable {l : Launch} {G : pG} {bg : Nat × Nat} {n : Nat} {K : Int → Nat × Nat} {F E : Int → Int → Int} {Q : Option pV → pM → Prop}
theorem c_fact {r t f : Int} (hK : KS K) (hF : FS F) (r0 : 0 ≤ r) (r1 : r < 3) (t0 : 0 ≤ t) (t1 : t < 9) (f0 : 0 ≤ f) (f1 : f ≤ 2) (h : Q (some (0, fct (cz (E 3)) r t f)) (n, K, F, E)) : PC l G 1 mX0_fact bg [(2, 2), (0, r), (0, t), (0, f)] (n, K, F, E) Q := by
  refine vX0_fact_0 2 r t f ?_
  unfold fct at h
  simp only [hF.f2_0, hK.k2, hK.k3]
  refine ⟨fun z => ⟨by omega, trivial, by omega, by omega, by omega, by omega, by omega, trivial, by omega, fun a e => ?_⟩, fun z => ?_⟩
  · rw [if_neg z, cz_in (by omega) (by omega)] at h
    rw [e]
    exact h
  · rw [if_pos z] at h
    exact h
theorem r_factOf {r t f : Int} (hK : KS K) (hF : FS F) (r0 : 0 ≤ r) (r1 : r < 3) (t0 : 0 ≤ t) (t1 : t < 9) (f0 : 0 ≤ f) (f1 : f ≤ 2) (h : Q (some (0, fct (cz (sh6 (E 68))) r t f)) (n, K, F, E)) : PC l G 1 mX12_factOf bg [(2, 66), (0, r), (0, t), (0, f)] (n, K, F, E) Q := by
  refine vX12_factOf_0 66 r t f ?_
  unfold fct at h
  simp only [hF.f66_3, hK.k66, hK.k68]
  refine ⟨fun z => ⟨trivial, by omega, by omega, by omega, by omega, by omega, by omega, trivial, by omega, fun a e => ?_⟩, fun z => ?_⟩
  · rw [if_neg z, czs_at (j := 42 + 27 * r + 3 * t + f - 1) (by omega) (by omega) (by omega)] at h
    rw [e]
    exact h
  · rw [if_pos z] at h
    exact h
theorem c_agrees_2 {r t : Int} (hK : KS K) (hF : FS F) (hs : SeenOk (cz (E 3)) (E 5) (E 6) (F 1 4)) (r0 : 0 ≤ r) (r1 : r < 3) (t0 : 0 ≤ t) (t1 : t < 9) (h : Q (some (0, agI (cz (E 3)) (E 5) (E 6) (F 1 4) r t)) (n, K, F, E)) (m : Nat) : ∀ i : Int, i + m = F 1 4 → 0 ≤ i → (∀ k, 0 ≤ k → k < i → fct (cz (E 3)) r t (E 5 k) = E 6 k) → PW l G 2 mX1_agrees bg 2 [(0, (2, 1)), (1, (0, r)), (2, (0, t)), (3, (0, i))] [] (n, K, F, E) Q := by
  induction m with
  | zero =>
    intro i e i0 q
    refine vX1_agrees_2 1 r t i ⟨by rw [hK.k1], fun _ => ?_, fun z => absurd (by omega) z⟩
    unfold agI at h
    rw [bI_of (show agP (cz (E 3)) (E 5) (E 6) (F 1 4) r t from fun k k0 k1 => q k k0 (by omega))] at h
    exact h
  | succ m ih =>
    intro i e i0 q
    have b := hs.1
    have b2 := hs.2.1 i i0 (by omega)
    refine vX1_agrees_2 1 r t i ?_
    simp only [hF.f1_0, hF.f1_2, hK.k1, hK.k2, hK.k5]
    refine ⟨trivial, fun z => absurd z (by omega), fun _ => ⟨trivial, by omega, trivial, c_fact hK hF r0 r1 t0 t1 b2.1.1 b2.1.2 ?_⟩⟩
    refine vX1_agrees_25 1 r t i _ ?_
    simp only [hF.f1_3, hK.k1, hK.k6]
    refine ⟨trivial, trivial, by omega, fun z => ⟨by omega, ih (i + 1) (by omega) (by omega) fun k k0 k1 => ?_⟩, fun z => ?_⟩
    · by_cases e2 : k = i
      · rw [e2]; exact z
      · exact q k k0 (by omega)
    · unfold agI at h
      rw [bI_no (fun y => z (y i i0 (by omega)))] at h
      exact h
theorem c_agrees {r t : Int} (hK : KS K) (hF : FS F) (hs : SeenOk (cz (E 3)) (E 5) (E 6) (F 1 4)) (r0 : 0 ≤ r) (r1 : r < 3) (t0 : 0 ≤ t) (t1 : t < 9) (h : Q (some (0, agI (cz (E 3)) (E 5) (E 6) (F 1 4) r t)) (n, K, F, E)) : PC l G 2 mX1_agrees bg [(2, 1), (0, r), (0, t)] (n, K, F, E) Q :=
  vX1_agrees_0 1 r t (c_agrees_2 hK hF hs r0 r1 t0 t1 h (F 1 4).toNat 0 (by have := hs.1; omega) (by omega) fun k k0 k1 => absurd k1 (by omega))
/-- the reference's row of what was seen -/
def SeenR (g f1 f2 : Int → Int) (s : Int) : Prop := g 0 = s ∧ ∀ k, 0 ≤ k → k < s → g (123 + 2 * k) = f1 k ∧ g (124 + 2 * k) = f2 k
theorem r_canBeIt_5 {r t s : Int} {f1 f2 : Int → Int} (hK : KS K) (hF : FS F) (hs : SeenOk (cz (sh6 (E 68))) f1 f2 s) (hg : SeenR (E 68) f1 f2 s) (r0 : 0 ≤ r) (r1 : r < 3) (t0 : 0 ≤ t) (t1 : t < 9) (h : Q (some (0, agI (cz (sh6 (E 68))) f1 f2 s r t)) (n, K, F, E)) (m : Nat) : ∀ i x : Int, i + m = s → 0 ≤ i → (x = 1 ∧ (∀ k, 0 ≤ k → k < i → fct (cz (sh6 (E 68))) r t (f1 k) = f2 k)) ∨ (x = 0 ∧ ∃ k, 0 ≤ k ∧ k < s ∧ fct (cz (sh6 (E 68))) r t (f1 k) ≠ f2 k) → PW l G 2 mX12_canBeIt bg 5 [(0, (2, 66)), (1, (0, r)), (2, (0, t)), (3, (0, x)), (4, (0, i))] [] (n, K, F, E) Q := by
  induction m with
  | zero =>
    intro i x e i0 q
    refine vX12_canBeIt_5 66 r t x i ?_
    simp only [hF.f66_3, hK.k66, hK.k68, hg.1]
    refine ⟨trivial, trivial, by decide, fun _ => ⟨by omega, ?_⟩, fun z => absurd (by omega) z⟩
    unfold agI at h
    rcases q with ⟨q1, q2⟩ | ⟨q1, k, q2, q3, q4⟩
    · rw [bI_of (show agP (cz (sh6 (E 68))) f1 f2 s r t from fun k k0 k1 => q2 k k0 (by omega))] at h
      rw [q1]
      exact h
    · rw [bI_no (fun y => q4 (y k q2 q3))] at h
      rw [q1]
      exact h
  | succ m ih =>
    intro i x e i0 q
    have b := hs.1
    have b2 := hs.2.1 i i0 (by omega)
    obtain ⟨g1, g2⟩ := hg.2 i i0 (by omega)
    refine vX12_canBeIt_5 66 r t x i ?_
    simp only [hF.f66_3, hK.k66, hK.k68, hg.1, g1]
    refine ⟨trivial, trivial, by decide, fun z => absurd z (by omega), fun _ => ⟨fun z => ⟨by omega, ?_⟩, fun z => ⟨by omega, by omega, by omega, ?_⟩⟩⟩
    · refine ih (i + 1) 0 (by omega) (by omega) ?_
      rcases q with ⟨q1, q2⟩ | ⟨q1, q2⟩
      · omega
      · exact Or.inr ⟨rfl, q2⟩
    · refine r_factOf hK hF r0 r1 t0 t1 b2.1.1 b2.1.2 ?_
      refine vX12_canBeIt_38 66 r t i _ ?_
      have q2 : ∀ k, 0 ≤ k → k < i → fct (cz (sh6 (E 68))) r t (f1 k) = f2 k := by
        rcases q with ⟨q1, q2⟩ | ⟨q1, q2⟩
        · exact q2
        · omega
      have g3 : E 68 (123 + 2 * i + 1) = f2 i := by rw [← g2]; congr 1; omega
      simp only [hF.f66_3, hK.k66, hK.k68, g3]
      refine ⟨trivial, by omega, by omega, by omega, trivial, by omega, fun y => ⟨by omega, ih (i + 1) 0 (by omega) (by omega) (Or.inr ⟨rfl, i, i0, by omega, y⟩)⟩, fun y => ⟨by omega, ih (i + 1) 1 (by omega) (by omega) (Or.inl ⟨rfl, fun k k0 k1 => ?_⟩)⟩⟩
      by_cases e2 : k = i
      · rw [e2]; exact y
      · exact q2 k k0 (by omega)
theorem r_canBeIt {r t s : Int} {f1 f2 : Int → Int} (hK : KS K) (hF : FS F) (hs : SeenOk (cz (sh6 (E 68))) f1 f2 s) (hg : SeenR (E 68) f1 f2 s) (r0 : 0 ≤ r) (r1 : r < 3) (t0 : 0 ≤ t) (t1 : t < 9) (h : Q (some (0, agI (cz (sh6 (E 68))) f1 f2 s r t)) (n, K, F, E)) : PC l G 2 mX12_canBeIt bg [(2, 66), (0, r), (0, t)] (n, K, F, E) Q :=
  vX12_canBeIt_0 66 r t (r_canBeIt_5 hK hF hs hg r0 r1 t0 t1 h s.toNat 0 1 (by have := hs.1; omega) (by omega) (Or.inl ⟨rfl, fun k k0 k1 => absurd k1 (by omega)⟩))
/-! canBe -/
def cbIn (A : Int → Int → Int) (c : Int → Int) (x r : Int) (k : Int → Int) : Nat → Int → Int → Int
  | 0, _, f => k f
  | m + 1, t, f => if A r t = 0 then cbIn A c x r k m (t + 1) f else if f = x then c (36 + (r * 9 + t) * 3 + 2) else cbIn A c x r k m (t + 1) (f + 1)
def cbS (A : Int → Int → Int) (c : Int → Int) (x : Int) : Int :=
  cbIn A c x 0 (fun f0 => cbIn A c x 1 (fun f1 => cbIn A c x 2 (fun f2 => if x = -1 then f2 else -1) (c (9 + 2)).toNat 0 f1) (c (9 + 1)).toNat 0 f0) (c (9 + 0)).toNat 0 0
theorem c_canBe_12 {x r : Int} (hK : KS K) (hF : FS F) (hs : SeenOk (cz (E 3)) (E 5) (E 6) (F 1 4)) (r0 : 0 ≤ r) (r1 : r < 3) (k : Int → Int) (hk : ∀ f, 0 ≤ f → f ≤ 9 * (r + 1) → Q (some (0, k f)) (n, K, F, E) → PW l G 3 mX11_canBe bg 4 [(0, (2, 0)), (1, (0, x)), (2, (0, f)), (3, (0, r + 1))] [] (n, K, F, E) Q) (m : Nat) : ∀ t f : Int, t + m = E 3 (9 + r) → 0 ≤ t → 0 ≤ f → f ≤ 9 * r + t → Q (some (0, cbIn (agI (cz (E 3)) (E 5) (E 6) (F 1 4)) (cz (E 3)) x r k m t f)) (n, K, F, E) → PW l G 3 mX11_canBe bg 12 [(0, (2, 0)), (1, (0, x)), (2, (0, f)), (3, (0, r)), (4, (0, t))] [] (n, K, F, E) Q := by
  have b := hs.2.2.2.2.2.1 r r0 r1
  rw [cz_in (k := 9 + r) (by omega) (by omega), cz_in (k := 3 + r) (by omega) (by omega)] at b
  induction m with
  | zero =>
    intro t f e t0 f0 f9 q
    refine vX11_canBe_12 0 x f r t ?_
    simp only [hF.f0_0, hF.f1_0, hF.f2_0, hK.k0, hK.k1, hK.k2, hK.k3]
    exact ⟨trivial, trivial, trivial, by omega, trivial, by omega, fun _ => ⟨by omega, hk f f0 (by omega) q⟩, fun z => absurd (by omega) z⟩
  | succ m ih =>
    intro t f e t0 f0 f9 q
    refine vX11_canBe_12 0 x f r t ?_
    simp only [hF.f0_0, hF.f1_0, hF.f2_0, hK.k0, hK.k1, hK.k2, hK.k3]
    refine ⟨trivial, trivial, trivial, by omega, trivial, by omega, fun z => absurd z (by omega), fun _ => c_agrees hK hF hs r0 r1 t0 (by omega) ?_⟩
    refine vX11_canBe_38 0 x f r t _ ?_
    simp only [hF.f0_0, hF.f1_0, hF.f2_0, hK.k0, hK.k1, hK.k2, hK.k3]
    unfold cbIn at q
    refine ⟨fun z => ⟨by omega, ih (t + 1) f (by omega) (by omega) f0 (by omega) ?_⟩, fun z => ⟨fun y => ⟨by omega, by omega, ih (t + 1) (f + 1) (by omega) (by omega) (by omega) (by omega) ?_⟩, fun y => ⟨trivial, trivial, trivial, by omega, by omega, by omega, by omega, by omega, trivial, by omega, fun a e => ?_⟩⟩⟩
    · rw [if_pos z] at q; exact q
    · rw [if_neg z, if_neg y] at q; exact q
    · rw [if_neg z, if_pos y, cz_in (by omega) (by omega)] at q
      rw [e]; exact q
theorem r_canBe_17 {x r s : Int} {f1 f2 : Int → Int} (hK : KS K) (hF : FS F) (hs : SeenOk (cz (sh6 (E 68))) f1 f2 s) (hg : SeenR (E 68) f1 f2 s) (r0 : 0 ≤ r) (r1 : r < 3) (k : Int → Int) (hk : ∀ f, 0 ≤ f → f ≤ 9 * (r + 1) → Q (some (0, k f)) (n, K, F, E) → PW l G 3 mX12_canBe bg 9 [(0, (2, 66)), (1, (0, x)), (2, (0, f)), (3, (0, r + 1))] [] (n, K, F, E) Q) (m : Nat) : ∀ t f : Int, t + m = E 68 (15 + r) → 0 ≤ t → 0 ≤ f → f ≤ 9 * r + t → Q (some (0, cbIn (agI (cz (sh6 (E 68))) f1 f2 s) (cz (sh6 (E 68))) x r k m t f)) (n, K, F, E) → PW l G 3 mX12_canBe bg 17 [(0, (2, 66)), (1, (0, x)), (2, (0, f)), (3, (0, r)), (4, (0, t))] [] (n, K, F, E) Q := by
  have b := hs.2.2.2.2.2.1 r r0 r1
  rw [czs_at (k := 9 + r) (j := 15 + r) (by omega) (by omega) (by omega), czs_at (k := 3 + r) (j := 9 + r) (by omega) (by omega) (by omega)] at b
  induction m with
  | zero =>
    intro t f e t0 f0 f9 q
    refine vX12_canBe_17 66 x f r t ?_
    simp only [hF.f66_3, hK.k66, hK.k68]
    exact ⟨trivial, by omega, trivial, by omega, fun _ => ⟨by omega, hk f f0 (by omega) q⟩, fun z => absurd (by omega) z⟩
  | succ m ih =>
    intro t f e t0 f0 f9 q
    refine vX12_canBe_17 66 x f r t ?_
    simp only [hF.f66_3, hK.k66, hK.k68]
    refine ⟨trivial, by omega, trivial, by omega, fun z => absurd z (by omega), fun _ => r_canBeIt hK hF hs hg r0 r1 t0 (by omega) ?_⟩
    refine vX12_canBe_38 66 x f r t _ ?_
    simp only [hF.f66_3, hK.k66, hK.k68]
    unfold cbIn at q
    refine ⟨fun z => ⟨by omega, ih (t + 1) f (by omega) (by omega) f0 (by omega) ?_⟩, fun z => ⟨fun y => ⟨by omega, by omega, ih (t + 1) (f + 1) (by omega) (by omega) (by omega) (by omega) ?_⟩, fun y => ⟨trivial, by omega, by omega, by omega, by omega, by omega, trivial, by omega, fun a e => ?_⟩⟩⟩
    · rw [if_pos z] at q; exact q
    · rw [if_neg z, if_neg y] at q; exact q
    · rw [if_neg z, if_pos y, czs_at (j := 42 + 27 * r + 3 * t + 2) (by omega) (by omega) (by omega)] at q
      rw [e]; exact q
end S
theorem inv_seen {LR : tLR} {G : pG} {n : Nat} {K : Int → Nat × Nat} {F E : Int → Int → Int} (h : Inv LR G n K F E) : SeenOk (cz (E 3)) (E 5) (E 6) (F 1 4) ∧ SeenR (E 68) (E 5) (E 6) (F 1 4) := by
  obtain ⟨h1, h2, h3, h4⟩ := h.2.1.2.2.1
  exact ⟨⟨⟨h2, h3⟩, fun k a b => (h4 k a b).2.2, cinv_cz h.2.1.1.2⟩, h1, fun k a b => ⟨(h4 k a b).1, (h4 k a b).2.1⟩⟩
theorem two_canBe {LR : tLR} {l : Launch} {G : pG} {x1 : Int} : Pair LR l G 3 mX11_canBe (0, 0) 3 mX12_canBe (0, 0) [(0, x1)] := by
  intro n K F E h
  have hK := h.KS
  have hF := h.FS
  obtain ⟨hs, hg⟩ := inv_seen h
  have hC := h.2.1.1.2
  have c9 : ∀ r, 0 ≤ r → r < 3 → cz (E 3) (9 + r) = E 3 (9 + r) ∧ 0 ≤ E 3 (9 + r) := fun r a b => ⟨cz_in (by omega) (by omega), (hC.2.2.2.1 r a b).2.2.1⟩
  have fin : ∀ f, (f = cbS (agI (cz (E 3)) (E 5) (E 6) (F 1 4)) (cz (E 3)) x1) → PostC LR l G 3 mX12_canBe (0, 0) [(0, x1)] (n, K, F, E) (some (0, f)) (n, K, F, E) := by
    intro v ev
    refine ⟨_, rfl, Out.refl, hK, vX12_canBe_0 66 x1 ⟨by rw [hK.k66], fun F1 e1 => ?_⟩⟩
    subst e1
    have hF' : FS (pUp F 66 0 0) := hF.up (by decide +kernel)
    have ec : cz (sh6 (E 68)) = cz (E 3) := rel_cz h.2.1.1.1
    have hs' : SeenOk (cz (sh6 (E 68))) (E 5) (E 6) (F 1 4) := by rw [ec]; exact hs
    have c15 : ∀ r, 0 ≤ r → r < 3 → cz (E 3) (9 + r) = E 68 (15 + r) ∧ 0 ≤ E 68 (15 + r) := fun r a b => by
      rw [← ec, czs_at (j := 15 + r) (by omega) (by omega) (by omega)]
      have q := h.2.1.1.1 (9 + r) (by omega) (by omega)
      rw [show 9 + r + 6 = 15 + r by omega] at q
      rw [q]
      exact ⟨rfl, (c9 r a b).2⟩
    refine vX12_canBe_9 66 x1 0 0 ⟨fun z => absurd z (by decide), fun _ => ?_⟩
    refine r_canBe_17 (s := F 1 4) (r := 0) (Q := PostR LR G v (n, K, F, E)) hK hF' hs' hg (by decide) (by decide) (fun f0 => cbIn (agI (cz (E 3)) (E 5) (E 6) (F 1 4)) (cz (E 3)) x1 1 (fun f1 => cbIn (agI (cz (E 3)) (E 5) (E 6) (F 1 4)) (cz (E 3)) x1 2 (fun f2 => if x1 = -1 then f2 else -1) (cz (E 3) (9 + 2)).toNat 0 f1) (cz (E 3) (9 + 1)).toNat 0 f0) (fun f a b q => ?_) (E 68 (15 + 0)).toNat 0 0 (by have := c15 0 (by decide) (by decide); omega) (by decide) (by decide) (by decide) ?_
    · refine vX12_canBe_9 66 x1 f (0 + 1) ⟨fun z => absurd z (by decide), fun _ => ?_⟩
      refine r_canBe_17 (s := F 1 4) (r := 1) hK hF' hs' hg (by decide) (by decide) (fun f1 => cbIn (agI (cz (E 3)) (E 5) (E 6) (F 1 4)) (cz (E 3)) x1 2 (fun f2 => if x1 = -1 then f2 else -1) (cz (E 3) (9 + 2)).toNat 0 f1) (fun f a b q => ?_) (E 68 (15 + 1)).toNat 0 f (by have := c15 1 (by decide) (by decide); omega) (by decide) a (by omega) ?_
      · refine vX12_canBe_9 66 x1 f (1 + 1) ⟨fun z => absurd z (by decide), fun _ => ?_⟩
        refine r_canBe_17 (s := F 1 4) (r := 2) hK hF' hs' hg (by decide) (by decide) (fun f2 => if x1 = -1 then f2 else -1) (fun f a b q => ?_) (E 68 (15 + 2)).toNat 0 f (by have := c15 2 (by decide) (by decide); omega) (by decide) a (by omega) ?_
        · refine vX12_canBe_9 66 x1 f (2 + 1) ⟨fun _ => ⟨fun z => ?_, fun z => ?_⟩, fun z => absurd (by decide) z⟩
          · rw [if_neg z] at q; exact q
          · rw [if_pos z] at q; exact q
        · rw [ec, ← (c15 2 (by decide) (by decide)).1]
          exact q
      · rw [ec, ← (c15 1 (by decide) (by decide)).1]
        exact q
    · rw [ec, ← (c15 0 (by decide) (by decide)).1]
      exact ⟨by rw [ev]; rfl, Out.F, h.zero⟩
  refine vX11_canBe_0 0 x1 (vX11_canBe_4 0 x1 0 0 ⟨fun z => absurd z (by decide), fun _ => ?_⟩)
  refine c_canBe_12 (r := 0) (Q := PostC LR l G 3 mX12_canBe (0, 0) [(0, x1)] (n, K, F, E)) hK hF hs (by decide) (by decide) (fun f0 => cbIn (agI (cz (E 3)) (E 5) (E 6) (F 1 4)) (cz (E 3)) x1 1 (fun f1 => cbIn (agI (cz (E 3)) (E 5) (E 6) (F 1 4)) (cz (E 3)) x1 2 (fun f2 => if x1 = -1 then f2 else -1) (cz (E 3) (9 + 2)).toNat 0 f1) (cz (E 3) (9 + 1)).toNat 0 f0) (fun f a b q => ?_) (E 3 (9 + 0)).toNat 0 0 (by have := c9 0 (by decide) (by decide); omega) (by decide) (by decide) (by decide) ?_
  · refine vX11_canBe_4 0 x1 f (0 + 1) ⟨fun z => absurd z (by decide), fun _ => ?_⟩
    refine c_canBe_12 (r := 1) hK hF hs (by decide) (by decide) (fun f1 => cbIn (agI (cz (E 3)) (E 5) (E 6) (F 1 4)) (cz (E 3)) x1 2 (fun f2 => if x1 = -1 then f2 else -1) (cz (E 3) (9 + 2)).toNat 0 f1) (fun f a b q => ?_) (E 3 (9 + 1)).toNat 0 f (by have := c9 1 (by decide) (by decide); omega) (by decide) a (by omega) ?_
    · refine vX11_canBe_4 0 x1 f (1 + 1) ⟨fun z => absurd z (by decide), fun _ => ?_⟩
      refine c_canBe_12 (r := 2) hK hF hs (by decide) (by decide) (fun f2 => if x1 = -1 then f2 else -1) (fun f a b q => ?_) (E 3 (9 + 2)).toNat 0 f (by have := c9 2 (by decide) (by decide); omega) (by decide) a (by omega) ?_
      · refine vX11_canBe_4 0 x1 f (2 + 1) ⟨fun _ => ⟨fun z => ?_, fun z => ?_⟩, fun z => absurd (by decide) z⟩
        · rw [if_neg z] at q; exact q
        · rw [if_pos z] at q; exact q
      · rw [← (c9 2 (by decide) (by decide)).1]
        exact q
    · rw [← (c9 1 (by decide) (by decide)).1]
      exact q
  · rw [← (c9 0 (by decide) (by decide)).1]
    exact fin _ rfl
