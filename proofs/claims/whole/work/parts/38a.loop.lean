/-! THE LAW'S LOOP (gen_loop.py) -/
theorem law_loop {l : Launch} {G : pG} {Q : Option pV → pM → Prop} {x0 : Int} {len : Nat} (hx : x0 < 0) (hlen : len ≤ 3072) (hQ : ∀ μ, Q (some (0, 1)) μ) (m : Nat) : ∀ (i : Int) (bg : Nat × Nat) (n : Nat) (K : Int → Nat × Nat) (F E : Int → Int → Int), 0 ≤ i → i ≤ 3078 → (len : Int) - i < 6 * m + 6 → 4 * m ≤ bg.1 → 900 * m ≤ bg.2 → K x0 = (20, len) → Inv lawLR G n K F E →
    PW l G 84 mL_law bg 18 [(0, (2, x0)), (1, (2, 0)), (2, (2, 66)), (3, (0, i))] [] (n, K, F, E) Q := by
  induction m with
  | zero =>
    intro i bg n K F E i0 i1 im b1 b2 kx h
    refine vL_law_18 x0 0 66 i ?_
    simp only [kx]
    exact ⟨trivial, by omega, fun _ => hQ _, fun z => absurd (by omega) z⟩
  | succ m ih =>
    intro i bg n K F E i0 i1 im b1 b2 kx h
    have hK := h.KS
    have nxt : ∀ (bg' : Nat × Nat) (n2 : Nat) (K2 : Int → Nat × Nat) (F2 E2 : Int → Int → Int), i + 6 ≤ 3078 → bg.1 ≤ bg'.1 + 4 → bg.2 ≤ bg'.2 + 900 → K2 x0 = (20, len) → Inv lawLR G n2 K2 F2 E2 → PW l G 84 mL_law bg' 1382 [(0, (2, x0)), (1, (2, 0)), (2, (2, 66)), (3, (0, i))] [] (n2, K2, F2, E2) Q := fun bg' n2 K2 F2 E2 j1 c1 c2 k2 h2 =>
      vL_law_1382 x0 0 66 i ⟨by omega, ih (i + 6) bg' n2 K2 F2 E2 (by omega) (by omega) (by omega) (by omega) (by omega) k2 h2⟩
    refine vL_law_18 x0 0 66 i ?_
    simp only [kx]
    refine ⟨trivial, by omega, fun _ => hQ _, fun z => ⟨by omega, fun _ => nxt bg n K F E (by omega) (by omega) (by omega) kx h, fun _ => ?_, fun _ => ?_, fun _ => ?_, fun _ => ?_, fun _ => ?_, fun _ => ?_, fun _ => ?_, fun _ => ?_, fun _ => ?_, fun _ => ?_, fun _ => ?_, fun _ => ?_, fun _ => ?_, fun _ => ?_, fun _ => ?_, fun _ => ?_, fun _ => ?_, fun _ => ?_, fun _ => ?_, fun _ => ?_, fun _ => ?_, fun _ => ?_, fun _ => ?_, fun _ => ?_, fun _ => ?_, fun _ => ?_, fun _ => ?_, fun _ => ?_, fun _ => ?_, fun _ => ?_, fun _ => ?_, fun _ => ?_, fun _ => ?_, fun _ => ?_, fun _ => ?_, fun _ => ?_, fun _ => ?_, fun _ => ?_, fun _ => ?_⟩⟩
    · -- 0 join
      refine vL_law_204 x0 0 66 i ?_
      simp only [kx, hK.k0]
      refine ⟨by omega, trivial, by omega, by omega, by omega, by omega, by omega, by omega, by omega, trivial, PW.mono (two_join lawLOk n K F E h) fun r μ hp => ?_⟩
      obtain ⟨n1, K1, F1, E1⟩ := μ
      obtain ⟨v, rfl, ou, hK1, pc⟩ := hp
      have kx1 : K1 x0 = (20, len) := ((ou x0 hx).1).trans kx
      have ex1 : E1 x0 = E x0 := (ou x0 hx).2
      dsimp only at hK1
      refine vL_law_228 x0 0 66 i v ?_
      simp only [kx1, hK1.k66, ex1]
      refine ⟨by omega, trivial, by omega, by omega, by omega, by omega, by omega, by omega, by omega, trivial, PW.mono pc fun r μ hp => ?_⟩
      obtain ⟨n2, K2, F2, E2⟩ := μ
      obtain ⟨rfl, ou2, i2⟩ := hp
      exact vL_law_252 x0 0 66 i v v ⟨fun _ => nxt _ n2 K2 F2 E2 (by omega) (by show bg.1 ≤ bg.1 + 4; omega) (by show bg.2 ≤ bg.2 + 900; omega) (((ou2 x0 hx).1).trans kx1) i2, fun z => absurd rfl z⟩
    · -- 1 filter
      refine vL_law_257 x0 0 66 i ?_
      simp only [kx, hK.k0]
      refine ⟨by omega, trivial, by omega, by omega, by omega, by omega, by omega, by omega, by omega, trivial, PW.mono (two_filter lawLOk n K F E h) fun r μ hp => ?_⟩
      obtain ⟨n1, K1, F1, E1⟩ := μ
      obtain ⟨v, rfl, ou, hK1, pc⟩ := hp
      have kx1 : K1 x0 = (20, len) := ((ou x0 hx).1).trans kx
      have ex1 : E1 x0 = E x0 := (ou x0 hx).2
      dsimp only at hK1
      refine vL_law_281 x0 0 66 i v ?_
      simp only [kx1, hK1.k66, ex1]
      refine ⟨by omega, trivial, by omega, by omega, by omega, by omega, by omega, by omega, by omega, trivial, PW.mono pc fun r μ hp => ?_⟩
      obtain ⟨n2, K2, F2, E2⟩ := μ
      obtain ⟨rfl, ou2, i2⟩ := hp
      exact vL_law_305 x0 0 66 i v v ⟨fun _ => nxt _ n2 K2 F2 E2 (by omega) (by show bg.1 ≤ bg.1 + 4; omega) (by show bg.2 ≤ bg.2 + 900; omega) (((ou2 x0 hx).1).trans kx1) i2, fun z => absurd rfl z⟩
    · -- 2 operator
      refine vL_law_310 x0 0 66 i ?_
      simp only [kx, hK.k0]
      refine ⟨by omega, trivial, by omega, by omega, by omega, trivial, PW.mono (two_operator n K F E h) fun r μ hp => ?_⟩
      obtain ⟨n1, K1, F1, E1⟩ := μ
      obtain ⟨v, rfl, ou, hK1, pc⟩ := hp
      have kx1 : K1 x0 = (20, len) := ((ou x0 hx).1).trans kx
      have ex1 : E1 x0 = E x0 := (ou x0 hx).2
      dsimp only at hK1
      refine vL_law_324 x0 0 66 i v ?_
      simp only [kx1, hK1.k66, ex1]
      refine ⟨by omega, trivial, by omega, by omega, by omega, trivial, PW.mono pc fun r μ hp => ?_⟩
      obtain ⟨n2, K2, F2, E2⟩ := μ
      obtain ⟨rfl, ou2, i2⟩ := hp
      exact vL_law_338 x0 0 66 i v v ⟨fun _ => nxt _ n2 K2 F2 E2 (by omega) (by show bg.1 ≤ bg.1 + 4; omega) (by show bg.2 ≤ bg.2 + 900; omega) (((ou2 x0 hx).1).trans kx1) i2, fun z => absurd rfl z⟩
    · -- 3 relation
      refine vL_law_343 x0 0 66 i ?_
      simp only [kx, hK.k0]
      refine ⟨by omega, trivial, by omega, by omega, by omega, trivial, PW.mono (two_relation n K F E h) fun r μ hp => ?_⟩
      obtain ⟨n1, K1, F1, E1⟩ := μ
      obtain ⟨v, rfl, ou, hK1, pc⟩ := hp
      have kx1 : K1 x0 = (20, len) := ((ou x0 hx).1).trans kx
      have ex1 : E1 x0 = E x0 := (ou x0 hx).2
      dsimp only at hK1
      refine vL_law_357 x0 0 66 i v ?_
      simp only [kx1, hK1.k66, ex1]
      refine ⟨by omega, trivial, by omega, by omega, by omega, trivial, PW.mono pc fun r μ hp => ?_⟩
      obtain ⟨n2, K2, F2, E2⟩ := μ
      obtain ⟨rfl, ou2, i2⟩ := hp
      exact vL_law_371 x0 0 66 i v v ⟨fun _ => nxt _ n2 K2 F2 E2 (by omega) (by show bg.1 ≤ bg.1 + 4; omega) (by show bg.2 ≤ bg.2 + 900; omega) (((ou2 x0 hx).1).trans kx1) i2, fun z => absurd rfl z⟩
    · -- 4 tuple
      refine vL_law_376 x0 0 66 i ?_
      simp only [kx, hK.k0]
      refine ⟨by omega, trivial, by omega, by omega, by omega, by omega, by omega, trivial, PW.mono (two_tuple n K F E h) fun r μ hp => ?_⟩
      obtain ⟨n1, K1, F1, E1⟩ := μ
      obtain ⟨v, rfl, ou, hK1, pc⟩ := hp
      have kx1 : K1 x0 = (20, len) := ((ou x0 hx).1).trans kx
      have ex1 : E1 x0 = E x0 := (ou x0 hx).2
      dsimp only at hK1
      refine vL_law_395 x0 0 66 i v ?_
      simp only [kx1, hK1.k66, ex1]
      refine ⟨by omega, trivial, by omega, by omega, by omega, by omega, by omega, trivial, PW.mono pc fun r μ hp => ?_⟩
      obtain ⟨n2, K2, F2, E2⟩ := μ
      obtain ⟨rfl, ou2, i2⟩ := hp
      exact vL_law_414 x0 0 66 i v v ⟨fun _ => nxt _ n2 K2 F2 E2 (by omega) (by show bg.1 ≤ bg.1 + 4; omega) (by show bg.2 ≤ bg.2 + 900; omega) (((ou2 x0 hx).1).trans kx1) i2, fun z => absurd rfl z⟩
    · -- 5 terms
      refine vL_law_419 x0 0 66 i ?_
      simp only [kx, hK.k0]
      refine ⟨by omega, trivial, by omega, by omega, by omega, trivial, PW.mono (two_terms lawLOk n K F E h) fun r μ hp => ?_⟩
      obtain ⟨n1, K1, F1, E1⟩ := μ
      obtain ⟨v, rfl, ou, hK1, pc⟩ := hp
      have kx1 : K1 x0 = (20, len) := ((ou x0 hx).1).trans kx
      have ex1 : E1 x0 = E x0 := (ou x0 hx).2
      dsimp only at hK1
      refine vL_law_433 x0 0 66 i v ?_
      simp only [kx1, hK1.k66, ex1]
      refine ⟨by omega, trivial, by omega, by omega, by omega, trivial, PW.mono pc fun r μ hp => ?_⟩
      obtain ⟨n2, K2, F2, E2⟩ := μ
      obtain ⟨rfl, ou2, i2⟩ := hp
      exact vL_law_447 x0 0 66 i v v ⟨fun _ => nxt _ n2 K2 F2 E2 (by omega) (by show bg.1 ≤ bg.1 + 4; omega) (by show bg.2 ≤ bg.2 + 900; omega) (((ou2 x0 hx).1).trans kx1) i2, fun z => absurd rfl z⟩
    · -- 6 feed
      refine vL_law_452 x0 0 66 i ?_
      simp only [kx, hK.k0]
      refine ⟨by omega, trivial, by omega, by omega, by omega, by omega, by omega, by omega, by omega, by omega, by omega, trivial, PW.mono (two_feed n K F E h) fun r μ hp => ?_⟩
      obtain ⟨n1, K1, F1, E1⟩ := μ
      obtain ⟨v, rfl, ou, hK1, pc⟩ := hp
      have kx1 : K1 x0 = (20, len) := ((ou x0 hx).1).trans kx
      have ex1 : E1 x0 = E x0 := (ou x0 hx).2
      dsimp only at hK1
      refine vL_law_481 x0 0 66 i v ?_
      simp only [kx1, hK1.k66, ex1]
      refine ⟨by omega, trivial, by omega, by omega, by omega, by omega, by omega, by omega, by omega, by omega, by omega, trivial, PW.mono pc fun r μ hp => ?_⟩
      obtain ⟨n2, K2, F2, E2⟩ := μ
      obtain ⟨rfl, ou2, i2⟩ := hp
      exact vL_law_510 x0 0 66 i v v ⟨fun _ => nxt _ n2 K2 F2 E2 (by omega) (by show bg.1 ≤ bg.1 + 4; omega) (by show bg.2 ≤ bg.2 + 900; omega) (((ou2 x0 hx).1).trans kx1) i2, fun z => absurd rfl z⟩
    · -- 7 end
      refine vL_law_515 x0 0 66 i ?_
      simp only [kx, hK.k0]
      refine ⟨by omega, trivial, by omega, trivial, PW.mono (two_end n K F E h) fun r μ hp => ?_⟩
      obtain ⟨n1, K1, F1, E1⟩ := μ
      obtain ⟨v, rfl, ou, hK1, pc⟩ := hp
      have kx1 : K1 x0 = (20, len) := ((ou x0 hx).1).trans kx
      have ex1 : E1 x0 = E x0 := (ou x0 hx).2
      dsimp only at hK1
      refine vL_law_524 x0 0 66 i v ?_
      simp only [kx1, hK1.k66, ex1]
      refine ⟨by omega, trivial, by omega, trivial, PW.mono pc fun r μ hp => ?_⟩
      obtain ⟨n2, K2, F2, E2⟩ := μ
      obtain ⟨rfl, ou2, i2⟩ := hp
      exact vL_law_533 x0 0 66 i v v ⟨fun _ => nxt _ n2 K2 F2 E2 (by omega) (by show bg.1 ≤ bg.1 + 4; omega) (by show bg.2 ≤ bg.2 + 900; omega) (((ou2 x0 hx).1).trans kx1) i2, fun z => absurd rfl z⟩
    · -- 8 row
      refine vL_law_538 x0 0 66 i ?_
      simp only [kx, hK.k0]
      refine ⟨trivial, PW.mono (two_row n K F E h) fun r μ hp => ?_⟩
      obtain ⟨n1, K1, F1, E1⟩ := μ
      obtain ⟨v, rfl, ou, hK1, pc⟩ := hp
      have kx1 : K1 x0 = (20, len) := ((ou x0 hx).1).trans kx
      dsimp only at hK1
      refine vL_law_542 x0 0 66 i v ?_
      simp only [kx1, hK1.k66]
      refine ⟨trivial, PW.mono pc fun r μ hp => ?_⟩
      obtain ⟨n2, K2, F2, E2⟩ := μ
      obtain ⟨rfl, ou2, i2⟩ := hp
      exact vL_law_546 x0 0 66 i v v ⟨fun _ => nxt _ n2 K2 F2 E2 (by omega) (by show bg.1 ≤ bg.1 + 4; omega) (by show bg.2 ≤ bg.2 + 900; omega) (((ou2 x0 hx).1).trans kx1) i2, fun z => absurd rfl z⟩
    · -- 9 strays
      refine vL_law_551 x0 0 66 i ?_
      simp only [kx, hK.k0]
      refine ⟨trivial, PW.mono (two_strays n K F E h) fun r μ hp => ?_⟩
      obtain ⟨n1, K1, F1, E1⟩ := μ
      obtain ⟨v, rfl, ou, hK1, pc⟩ := hp
      have kx1 : K1 x0 = (20, len) := ((ou x0 hx).1).trans kx
      dsimp only at hK1
      refine vL_law_555 x0 0 66 i v ?_
      simp only [kx1, hK1.k66]
      refine ⟨trivial, PW.mono pc fun r μ hp => ?_⟩
      obtain ⟨n2, K2, F2, E2⟩ := μ
      obtain ⟨rfl, ou2, i2⟩ := hp
      exact vL_law_559 x0 0 66 i v v ⟨fun _ => nxt _ n2 K2 F2 E2 (by omega) (by show bg.1 ≤ bg.1 + 4; omega) (by show bg.2 ≤ bg.2 + 900; omega) (((ou2 x0 hx).1).trans kx1) i2, fun z => absurd rfl z⟩
    · -- 10 law
      refine vL_law_564 x0 0 66 i ?_
      simp only [kx, hK.k0]
      refine ⟨trivial, by omega, PW.mono (two_law n K F E h) fun r μ hp => ?_⟩
      obtain ⟨n1, K1, F1, E1⟩ := μ
      obtain ⟨v, rfl, ou, hK1, pc⟩ := hp
      have kx1 : K1 x0 = (20, len) := ((ou x0 hx).1).trans kx
      dsimp only at hK1
      refine vL_law_568 x0 0 66 i v ?_
      simp only [kx1, hK1.k66]
      refine ⟨trivial, PW.mono pc fun r μ hp => ?_⟩
      obtain ⟨n2, K2, F2, E2⟩ := μ
      obtain ⟨rfl, ou2, i2⟩ := hp
      exact vL_law_572 x0 0 66 i v v ⟨fun _ => nxt _ n2 K2 F2 E2 (by omega) (by show bg.1 ≤ bg.1 - 3 + 4; omega) (by show bg.2 ≤ bg.2 - 876 + 900; omega) (((ou2 x0 hx).1).trans kx1) i2, fun z => absurd rfl z⟩
    · -- 11 orders
      refine vL_law_577 x0 0 66 i ?_
      simp only [kx, hK.k0]
      refine ⟨trivial, PW.mono (two_orders n K F E h) fun r μ hp => ?_⟩
      obtain ⟨n1, K1, F1, E1⟩ := μ
      obtain ⟨v, rfl, ou, hK1, pc⟩ := hp
      have kx1 : K1 x0 = (20, len) := ((ou x0 hx).1).trans kx
      dsimp only at hK1
      refine vL_law_581 x0 0 66 i v ?_
      simp only [kx1, hK1.k66]
      refine ⟨trivial, PW.mono pc fun r μ hp => ?_⟩
      obtain ⟨n2, K2, F2, E2⟩ := μ
      obtain ⟨rfl, ou2, i2⟩ := hp
      exact vL_law_585 x0 0 66 i v v ⟨fun _ => nxt _ n2 K2 F2 E2 (by omega) (by show bg.1 ≤ bg.1 + 4; omega) (by show bg.2 ≤ bg.2 + 900; omega) (((ou2 x0 hx).1).trans kx1) i2, fun z => absurd rfl z⟩
    · -- 12 fault
      refine vL_law_590 x0 0 66 i ?_
      simp only [kx, hK.k0]
      refine ⟨trivial, PW.mono (two_fault n K F E h) fun r μ hp => ?_⟩
      obtain ⟨n1, K1, F1, E1⟩ := μ
      obtain ⟨v, rfl, ou, hK1, pc⟩ := hp
      have kx1 : K1 x0 = (20, len) := ((ou x0 hx).1).trans kx
      dsimp only at hK1
      refine vL_law_594 x0 0 66 i v ?_
      simp only [kx1, hK1.k66]
      refine ⟨trivial, PW.mono pc fun r μ hp => ?_⟩
      obtain ⟨n2, K2, F2, E2⟩ := μ
      obtain ⟨rfl, ou2, i2⟩ := hp
      exact vL_law_598 x0 0 66 i v v ⟨fun _ => nxt _ n2 K2 F2 E2 (by omega) (by show bg.1 ≤ bg.1 + 4; omega) (by show bg.2 ≤ bg.2 + 900; omega) (((ou2 x0 hx).1).trans kx1) i2, fun z => absurd rfl z⟩
    · -- 13 stopped
      refine vL_law_603 x0 0 66 i ?_
      simp only [kx, hK.k0]
      refine ⟨trivial, PW.mono (two_stopped n K F E h) fun r μ hp => ?_⟩
      obtain ⟨n1, K1, F1, E1⟩ := μ
      obtain ⟨v, rfl, ou, hK1, pc⟩ := hp
      have kx1 : K1 x0 = (20, len) := ((ou x0 hx).1).trans kx
      dsimp only at hK1
      refine vL_law_607 x0 0 66 i v ?_
      simp only [kx1, hK1.k66]
      refine ⟨trivial, PW.mono pc fun r μ hp => ?_⟩
      obtain ⟨n2, K2, F2, E2⟩ := μ
      obtain ⟨rfl, ou2, i2⟩ := hp
      exact vL_law_611 x0 0 66 i v v ⟨fun _ => nxt _ n2 K2 F2 E2 (by omega) (by show bg.1 ≤ bg.1 + 4; omega) (by show bg.2 ≤ bg.2 + 900; omega) (((ou2 x0 hx).1).trans kx1) i2, fun z => absurd rfl z⟩
    · -- 14 force
      refine vL_law_616 x0 0 66 i ?_
      simp only [kx, hK.k0]
      refine ⟨by omega, trivial, by omega, trivial, PW.mono (two_force lawLOk n K F E h) fun r μ hp => ?_⟩
      obtain ⟨n1, K1, F1, E1⟩ := μ
      obtain ⟨v, rfl, ou, hK1, pc⟩ := hp
      have kx1 : K1 x0 = (20, len) := ((ou x0 hx).1).trans kx
      have ex1 : E1 x0 = E x0 := (ou x0 hx).2
      dsimp only at hK1
      refine vL_law_625 x0 0 66 i v ?_
      simp only [kx1, hK1.k66, ex1]
      refine ⟨by omega, trivial, by omega, trivial, PW.mono pc fun r μ hp => ?_⟩
      obtain ⟨n2, K2, F2, E2⟩ := μ
      obtain ⟨rfl, ou2, i2⟩ := hp
      exact vL_law_634 x0 0 66 i v v ⟨fun _ => nxt _ n2 K2 F2 E2 (by omega) (by show bg.1 ≤ bg.1 + 4; omega) (by show bg.2 ≤ bg.2 + 900; omega) (((ou2 x0 hx).1).trans kx1) i2, fun z => absurd rfl z⟩
    · -- 15 come
      refine vL_law_639 x0 0 66 i ?_
      simp only [kx, hK.k0]
      refine ⟨by omega, trivial, by omega, by omega, by omega, by omega, by omega, trivial, PW.mono (two_come n K F E h) fun r μ hp => ?_⟩
      obtain ⟨n1, K1, F1, E1⟩ := μ
      obtain ⟨v, rfl, ou, hK1, pc⟩ := hp
      have kx1 : K1 x0 = (20, len) := ((ou x0 hx).1).trans kx
      have ex1 : E1 x0 = E x0 := (ou x0 hx).2
      dsimp only at hK1
      refine vL_law_658 x0 0 66 i v ?_
      simp only [kx1, hK1.k66, ex1]
      refine ⟨by omega, trivial, by omega, by omega, by omega, by omega, by omega, trivial, PW.mono pc fun r μ hp => ?_⟩
      obtain ⟨n2, K2, F2, E2⟩ := μ
      obtain ⟨rfl, ou2, i2⟩ := hp
      exact vL_law_677 x0 0 66 i v v ⟨fun _ => nxt _ n2 K2 F2 E2 (by omega) (by show bg.1 ≤ bg.1 + 4; omega) (by show bg.2 ≤ bg.2 + 900; omega) (((ou2 x0 hx).1).trans kx1) i2, fun z => absurd rfl z⟩
    · -- 16 strike
      refine vL_law_682 x0 0 66 i ?_
      simp only [kx, hK.k0]
      refine ⟨by omega, trivial, by omega, trivial, PW.mono (two_strike lawLOk n K F E h) fun r μ hp => ?_⟩
      obtain ⟨n1, K1, F1, E1⟩ := μ
      obtain ⟨v, rfl, ou, hK1, pc⟩ := hp
      have kx1 : K1 x0 = (20, len) := ((ou x0 hx).1).trans kx
      have ex1 : E1 x0 = E x0 := (ou x0 hx).2
      dsimp only at hK1
      refine vL_law_691 x0 0 66 i v ?_
      simp only [kx1, hK1.k66, ex1]
      refine ⟨by omega, trivial, by omega, trivial, PW.mono pc fun r μ hp => ?_⟩
      obtain ⟨n2, K2, F2, E2⟩ := μ
      obtain ⟨rfl, ou2, i2⟩ := hp
      exact vL_law_700 x0 0 66 i v v ⟨fun _ => nxt _ n2 K2 F2 E2 (by omega) (by show bg.1 ≤ bg.1 + 4; omega) (by show bg.2 ≤ bg.2 + 900; omega) (((ou2 x0 hx).1).trans kx1) i2, fun z => absurd rfl z⟩
    · -- 17 window
      refine vL_law_705 x0 0 66 i ?_
      simp only [kx, hK.k0]
      refine ⟨by omega, trivial, by omega, by omega, by omega, trivial, PW.mono (two_window lawLOk n K F E h) fun r μ hp => ?_⟩
      obtain ⟨n1, K1, F1, E1⟩ := μ
      obtain ⟨v, rfl, ou, hK1, pc⟩ := hp
      have kx1 : K1 x0 = (20, len) := ((ou x0 hx).1).trans kx
      have ex1 : E1 x0 = E x0 := (ou x0 hx).2
      dsimp only at hK1
      refine vL_law_719 x0 0 66 i v ?_
      simp only [kx1, hK1.k66, ex1]
      refine ⟨by omega, trivial, by omega, by omega, by omega, trivial, PW.mono pc fun r μ hp => ?_⟩
      obtain ⟨n2, K2, F2, E2⟩ := μ
      obtain ⟨rfl, ou2, i2⟩ := hp
      exact vL_law_733 x0 0 66 i v v ⟨fun _ => nxt _ n2 K2 F2 E2 (by omega) (by show bg.1 ≤ bg.1 + 4; omega) (by show bg.2 ≤ bg.2 + 900; omega) (((ou2 x0 hx).1).trans kx1) i2, fun z => absurd rfl z⟩
    · -- 18 index
      refine vL_law_738 x0 0 66 i ?_
      simp only [kx, hK.k0]
      refine ⟨by omega, trivial, by omega, by omega, by omega, trivial, PW.mono (two_index lawLOk n K F E h) fun r μ hp => ?_⟩
      obtain ⟨n1, K1, F1, E1⟩ := μ
      obtain ⟨v, rfl, ou, hK1, pc⟩ := hp
      have kx1 : K1 x0 = (20, len) := ((ou x0 hx).1).trans kx
      have ex1 : E1 x0 = E x0 := (ou x0 hx).2
      dsimp only at hK1
      refine vL_law_752 x0 0 66 i v ?_
      simp only [kx1, hK1.k66, ex1]
      refine ⟨by omega, trivial, by omega, by omega, by omega, trivial, PW.mono pc fun r μ hp => ?_⟩
      obtain ⟨n2, K2, F2, E2⟩ := μ
      obtain ⟨rfl, ou2, i2⟩ := hp
      exact vL_law_766 x0 0 66 i v v ⟨fun _ => nxt _ n2 K2 F2 E2 (by omega) (by show bg.1 ≤ bg.1 + 4; omega) (by show bg.2 ≤ bg.2 + 900; omega) (((ou2 x0 hx).1).trans kx1) i2, fun z => absurd rfl z⟩
    · -- 19 undo
      refine vL_law_771 x0 0 66 i ?_
      simp only [kx, hK.k0]
      refine ⟨trivial, PW.mono (two_undo lawLOk n K F E h) fun r μ hp => ?_⟩
      obtain ⟨n1, K1, F1, E1⟩ := μ
      obtain ⟨v, rfl, ou, hK1, pc⟩ := hp
      have kx1 : K1 x0 = (20, len) := ((ou x0 hx).1).trans kx
      dsimp only at hK1
      refine vL_law_775 x0 0 66 i v ?_
      simp only [kx1, hK1.k66]
      refine ⟨trivial, PW.mono pc fun r μ hp => ?_⟩
      obtain ⟨n2, K2, F2, E2⟩ := μ
      obtain ⟨rfl, ou2, i2⟩ := hp
      exact vL_law_779 x0 0 66 i v v ⟨fun _ => nxt _ n2 K2 F2 E2 (by omega) (by show bg.1 ≤ bg.1 + 4; omega) (by show bg.2 ≤ bg.2 + 900; omega) (((ou2 x0 hx).1).trans kx1) i2, fun z => absurd rfl z⟩
    · -- 20 result
      refine vL_law_784 x0 0 66 i ?_
      simp only [kx, hK.k0]
      refine ⟨by omega, trivial, by omega, by omega, by omega, trivial, PW.mono (two_result n K F E h) fun r μ hp => ?_⟩
      obtain ⟨n1, K1, F1, E1⟩ := μ
      obtain ⟨v, rfl, ou, hK1, pc⟩ := hp
      have kx1 : K1 x0 = (20, len) := ((ou x0 hx).1).trans kx
      have ex1 : E1 x0 = E x0 := (ou x0 hx).2
      dsimp only at hK1
      refine vL_law_798 x0 0 66 i v ?_
      simp only [kx1, hK1.k66, ex1]
      refine ⟨by omega, trivial, by omega, by omega, by omega, trivial, PW.mono pc fun r μ hp => ?_⟩
      obtain ⟨n2, K2, F2, E2⟩ := μ
      obtain ⟨rfl, ou2, i2⟩ := hp
      exact vL_law_812 x0 0 66 i v v ⟨fun _ => nxt _ n2 K2 F2 E2 (by omega) (by show bg.1 ≤ bg.1 + 4; omega) (by show bg.2 ≤ bg.2 + 900; omega) (((ou2 x0 hx).1).trans kx1) i2, fun z => absurd rfl z⟩
    · -- 21 shut
      refine vL_law_817 x0 0 66 i ?_
      simp only [kx, hK.k0]
      refine ⟨by omega, trivial, by omega, trivial, PW.mono (two_shut n K F E h) fun r μ hp => ?_⟩
      obtain ⟨n1, K1, F1, E1⟩ := μ
      obtain ⟨v, rfl, ou, hK1, pc⟩ := hp
      have kx1 : K1 x0 = (20, len) := ((ou x0 hx).1).trans kx
      have ex1 : E1 x0 = E x0 := (ou x0 hx).2
      dsimp only at hK1
      refine vL_law_826 x0 0 66 i v ?_
      simp only [kx1, hK1.k66, ex1]
      refine ⟨by omega, trivial, by omega, trivial, PW.mono pc fun r μ hp => ?_⟩
      obtain ⟨n2, K2, F2, E2⟩ := μ
      obtain ⟨rfl, ou2, i2⟩ := hp
      exact vL_law_835 x0 0 66 i v v ⟨fun _ => nxt _ n2 K2 F2 E2 (by omega) (by show bg.1 ≤ bg.1 + 4; omega) (by show bg.2 ≤ bg.2 + 900; omega) (((ou2 x0 hx).1).trans kx1) i2, fun z => absurd rfl z⟩
    · -- 22 deepest
      refine vL_law_840 x0 0 66 i ?_
      simp only [kx, hK.k0]
      refine ⟨trivial, PW.mono (two_deepest n K F E h) fun r μ hp => ?_⟩
      obtain ⟨n1, K1, F1, E1⟩ := μ
      obtain ⟨v, rfl, ou, hK1, pc⟩ := hp
      have kx1 : K1 x0 = (20, len) := ((ou x0 hx).1).trans kx
      dsimp only at hK1
      refine vL_law_844 x0 0 66 i v ?_
      simp only [kx1, hK1.k66]
      refine ⟨trivial, PW.mono pc fun r μ hp => ?_⟩
      obtain ⟨n2, K2, F2, E2⟩ := μ
      obtain ⟨rfl, ou2, i2⟩ := hp
      exact vL_law_848 x0 0 66 i v v ⟨fun _ => nxt _ n2 K2 F2 E2 (by omega) (by show bg.1 ≤ bg.1 + 4; omega) (by show bg.2 ≤ bg.2 + 900; omega) (((ou2 x0 hx).1).trans kx1) i2, fun z => absurd rfl z⟩
    · -- 23 brings
      refine vL_law_853 x0 0 66 i ?_
      simp only [kx, hK.k0]
      refine ⟨by omega, trivial, by omega, by omega, by omega, by omega, by omega, by omega, by omega, trivial, PW.mono (two_brings n K F E h) fun r μ hp => ?_⟩
      obtain ⟨n1, K1, F1, E1⟩ := μ
      obtain ⟨v, rfl, ou, hK1, pc⟩ := hp
      have kx1 : K1 x0 = (20, len) := ((ou x0 hx).1).trans kx
      have ex1 : E1 x0 = E x0 := (ou x0 hx).2
      dsimp only at hK1
      refine vL_law_877 x0 0 66 i v ?_
      simp only [kx1, hK1.k66, ex1]
      refine ⟨by omega, trivial, by omega, by omega, by omega, by omega, by omega, by omega, by omega, trivial, PW.mono pc fun r μ hp => ?_⟩
      obtain ⟨n2, K2, F2, E2⟩ := μ
      obtain ⟨rfl, ou2, i2⟩ := hp
      exact vL_law_901 x0 0 66 i v v ⟨fun _ => nxt _ n2 K2 F2 E2 (by omega) (by show bg.1 ≤ bg.1 + 4; omega) (by show bg.2 ≤ bg.2 + 900; omega) (((ou2 x0 hx).1).trans kx1) i2, fun z => absurd rfl z⟩
    · -- 24 cheapest
      refine vL_law_906 x0 0 66 i ?_
      simp only [kx, hK.k0]
      refine ⟨by omega, trivial, by omega, by omega, by omega, by omega, by omega, by omega, by omega, trivial, PW.mono (two_cheapest n K F E h) fun r μ hp => ?_⟩
      obtain ⟨n1, K1, F1, E1⟩ := μ
      obtain ⟨v, rfl, ou, hK1, pc⟩ := hp
      have kx1 : K1 x0 = (20, len) := ((ou x0 hx).1).trans kx
      have ex1 : E1 x0 = E x0 := (ou x0 hx).2
      dsimp only at hK1
      refine vL_law_930 x0 0 66 i v ?_
      simp only [kx1, hK1.k66, ex1]
      refine ⟨by omega, trivial, by omega, by omega, by omega, by omega, by omega, by omega, by omega, trivial, PW.mono pc fun r μ hp => ?_⟩
      obtain ⟨n2, K2, F2, E2⟩ := μ
      obtain ⟨rfl, ou2, i2⟩ := hp
      exact vL_law_954 x0 0 66 i v v ⟨fun _ => nxt _ n2 K2 F2 E2 (by omega) (by show bg.1 ≤ bg.1 + 4; omega) (by show bg.2 ≤ bg.2 + 900; omega) (((ou2 x0 hx).1).trans kx1) i2, fun z => absurd rfl z⟩
    · -- 25 regret
      refine vL_law_959 x0 0 66 i ?_
      simp only [kx, hK.k0]
      refine ⟨by omega, trivial, by omega, by omega, by omega, by omega, by omega, trivial, PW.mono (two_regret n K F E h) fun r μ hp => ?_⟩
      obtain ⟨n1, K1, F1, E1⟩ := μ
      obtain ⟨v, rfl, ou, hK1, pc⟩ := hp
      have kx1 : K1 x0 = (20, len) := ((ou x0 hx).1).trans kx
      have ex1 : E1 x0 = E x0 := (ou x0 hx).2
      dsimp only at hK1
      refine vL_law_978 x0 0 66 i v ?_
      simp only [kx1, hK1.k66, ex1]
      refine ⟨by omega, trivial, by omega, by omega, by omega, by omega, by omega, trivial, PW.mono pc fun r μ hp => ?_⟩
      obtain ⟨n2, K2, F2, E2⟩ := μ
      obtain ⟨rfl, ou2, i2⟩ := hp
      exact vL_law_997 x0 0 66 i v v ⟨fun _ => nxt _ n2 K2 F2 E2 (by omega) (by show bg.1 ≤ bg.1 + 4; omega) (by show bg.2 ≤ bg.2 + 900; omega) (((ou2 x0 hx).1).trans kx1) i2, fun z => absurd rfl z⟩
    · -- 26 bestIndex
      refine vL_law_1002 x0 0 66 i ?_
      simp only [kx, hK.k0]
      refine ⟨by omega, trivial, by omega, by omega, by omega, by omega, by omega, by omega, by omega, trivial, PW.mono (two_bestIndex n K F E h) fun r μ hp => ?_⟩
      obtain ⟨n1, K1, F1, E1⟩ := μ
      obtain ⟨v, rfl, ou, hK1, pc⟩ := hp
      have kx1 : K1 x0 = (20, len) := ((ou x0 hx).1).trans kx
      have ex1 : E1 x0 = E x0 := (ou x0 hx).2
      dsimp only at hK1
      refine vL_law_1026 x0 0 66 i v ?_
      simp only [kx1, hK1.k66, ex1]
      refine ⟨by omega, trivial, by omega, by omega, by omega, by omega, by omega, by omega, by omega, trivial, PW.mono pc fun r μ hp => ?_⟩
      obtain ⟨n2, K2, F2, E2⟩ := μ
      obtain ⟨rfl, ou2, i2⟩ := hp
      exact vL_law_1050 x0 0 66 i v v ⟨fun _ => nxt _ n2 K2 F2 E2 (by omega) (by show bg.1 ≤ bg.1 + 4; omega) (by show bg.2 ≤ bg.2 + 900; omega) (((ou2 x0 hx).1).trans kx1) i2, fun z => absurd rfl z⟩
    · -- 27 seen
      refine vL_law_1055 x0 0 66 i ?_
      simp only [kx, hK.k0]
      refine ⟨by omega, trivial, by omega, by omega, by omega, trivial, PW.mono (two_seen lawLOk n K F E h) fun r μ hp => ?_⟩
      obtain ⟨n1, K1, F1, E1⟩ := μ
      obtain ⟨v, rfl, ou, hK1, pc⟩ := hp
      have kx1 : K1 x0 = (20, len) := ((ou x0 hx).1).trans kx
      have ex1 : E1 x0 = E x0 := (ou x0 hx).2
      dsimp only at hK1
      refine vL_law_1069 x0 0 66 i v ?_
      simp only [kx1, hK1.k66, ex1]
      refine ⟨by omega, trivial, by omega, by omega, by omega, trivial, PW.mono pc fun r μ hp => ?_⟩
      obtain ⟨n2, K2, F2, E2⟩ := μ
      obtain ⟨rfl, ou2, i2⟩ := hp
      exact vL_law_1083 x0 0 66 i v v ⟨fun _ => nxt _ n2 K2 F2 E2 (by omega) (by show bg.1 ≤ bg.1 + 4; omega) (by show bg.2 ≤ bg.2 + 900; omega) (((ou2 x0 hx).1).trans kx1) i2, fun z => absurd rfl z⟩
    · -- 28 forget
      refine vL_law_1088 x0 0 66 i ?_
      simp only [kx, hK.k0]
      refine ⟨trivial, PW.mono (two_forget lawLOk n K F E h) fun r μ hp => ?_⟩
      obtain ⟨n1, K1, F1, E1⟩ := μ
      obtain ⟨v, rfl, ou, hK1, pc⟩ := hp
      have kx1 : K1 x0 = (20, len) := ((ou x0 hx).1).trans kx
      dsimp only at hK1
      refine vL_law_1092 x0 0 66 i v ?_
      simp only [kx1, hK1.k66]
      refine ⟨trivial, PW.mono pc fun r μ hp => ?_⟩
      obtain ⟨n2, K2, F2, E2⟩ := μ
      obtain ⟨rfl, ou2, i2⟩ := hp
      exact vL_law_1096 x0 0 66 i v v ⟨fun _ => nxt _ n2 K2 F2 E2 (by omega) (by show bg.1 ≤ bg.1 + 4; omega) (by show bg.2 ≤ bg.2 + 900; omega) (((ou2 x0 hx).1).trans kx1) i2, fun z => absurd rfl z⟩
    · -- 29 canBe
      refine vL_law_1101 x0 0 66 i ?_
      simp only [kx, hK.k0]
      refine ⟨by omega, trivial, by omega, trivial, PW.mono (two_canBe n K F E h) fun r μ hp => ?_⟩
      obtain ⟨n1, K1, F1, E1⟩ := μ
      obtain ⟨v, rfl, ou, hK1, pc⟩ := hp
      have kx1 : K1 x0 = (20, len) := ((ou x0 hx).1).trans kx
      have ex1 : E1 x0 = E x0 := (ou x0 hx).2
      dsimp only at hK1
      refine vL_law_1110 x0 0 66 i v ?_
      simp only [kx1, hK1.k66, ex1]
      refine ⟨by omega, trivial, by omega, trivial, PW.mono pc fun r μ hp => ?_⟩
      obtain ⟨n2, K2, F2, E2⟩ := μ
      obtain ⟨rfl, ou2, i2⟩ := hp
      exact vL_law_1119 x0 0 66 i v v ⟨fun _ => nxt _ n2 K2 F2 E2 (by omega) (by show bg.1 ≤ bg.1 + 4; omega) (by show bg.2 ≤ bg.2 + 900; omega) (((ou2 x0 hx).1).trans kx1) i2, fun z => absurd rfl z⟩
    · -- 30 ask
      refine vL_law_1124 x0 0 66 i ?_
      simp only [kx, hK.k0]
      refine ⟨by omega, trivial, by omega, trivial, PW.mono (two_ask n K F E h) fun r μ hp => ?_⟩
      obtain ⟨n1, K1, F1, E1⟩ := μ
      obtain ⟨v, rfl, ou, hK1, pc⟩ := hp
      have kx1 : K1 x0 = (20, len) := ((ou x0 hx).1).trans kx
      have ex1 : E1 x0 = E x0 := (ou x0 hx).2
      dsimp only at hK1
      refine vL_law_1133 x0 0 66 i v ?_
      simp only [kx1, hK1.k66, ex1]
      refine ⟨by omega, trivial, by omega, trivial, PW.mono pc fun r μ hp => ?_⟩
      obtain ⟨n2, K2, F2, E2⟩ := μ
      obtain ⟨rfl, ou2, i2⟩ := hp
      exact vL_law_1142 x0 0 66 i v v ⟨fun _ => nxt _ n2 K2 F2 E2 (by omega) (by show bg.1 ≤ bg.1 + 4; omega) (by show bg.2 ≤ bg.2 + 900; omega) (((ou2 x0 hx).1).trans kx1) i2, fun z => absurd rfl z⟩
    · -- 31 few
      refine vL_law_1147 x0 0 66 i ?_
      simp only [kx, hK.k0]
      refine ⟨by omega, trivial, by omega, by omega, by omega, trivial, by omega, PW.mono (two_few n K F E h) fun r μ hp => ?_⟩
      obtain ⟨n1, K1, F1, E1⟩ := μ
      obtain ⟨v, rfl, ou, hK1, pc⟩ := hp
      have kx1 : K1 x0 = (20, len) := ((ou x0 hx).1).trans kx
      have ex1 : E1 x0 = E x0 := (ou x0 hx).2
      dsimp only at hK1
      refine vL_law_1161 x0 0 66 i v ?_
      simp only [kx1, hK1.k66, ex1]
      refine ⟨by omega, trivial, by omega, by omega, by omega, trivial, PW.mono pc fun r μ hp => ?_⟩
      obtain ⟨n2, K2, F2, E2⟩ := μ
      obtain ⟨rfl, ou2, i2⟩ := hp
      exact vL_law_1175 x0 0 66 i v v ⟨fun _ => nxt _ n2 K2 F2 E2 (by omega) (by show bg.1 ≤ bg.1 - 1 + 4; omega) (by show bg.2 ≤ bg.2 - 20 + 900; omega) (((ou2 x0 hx).1).trans kx1) i2, fun z => absurd rfl z⟩
    · -- 32 compare
      refine vL_law_1181 x0 0 66 i ?_
      simp only [kx, hK.k0]
      refine ⟨by omega, trivial, by omega, by omega, by omega, by omega, by omega, by omega, by omega, trivial, PW.mono (two_compare n K F E h) fun r μ hp => ?_⟩
      obtain ⟨n1, K1, F1, E1⟩ := μ
      obtain ⟨v, rfl, ou, hK1, pc⟩ := hp
      have kx1 : K1 x0 = (20, len) := ((ou x0 hx).1).trans kx
      have ex1 : E1 x0 = E x0 := (ou x0 hx).2
      dsimp only at hK1
      refine vL_law_1205 x0 0 66 i v ?_
      simp only [kx1, hK1.k66, ex1]
      refine ⟨by omega, trivial, by omega, by omega, by omega, by omega, by omega, by omega, by omega, trivial, PW.mono pc fun r μ hp => ?_⟩
      obtain ⟨n2, K2, F2, E2⟩ := μ
      obtain ⟨rfl, ou2, i2⟩ := hp
      exact vL_law_1229 x0 0 66 i v v ⟨fun _ => nxt _ n2 K2 F2 E2 (by omega) (by show bg.1 ≤ bg.1 + 4; omega) (by show bg.2 ≤ bg.2 + 900; omega) (((ou2 x0 hx).1).trans kx1) i2, fun z => absurd rfl z⟩
    · -- 33 days
      refine vL_law_1234 x0 0 66 i ?_
      simp only [kx, hK.k0]
      refine ⟨by omega, trivial, by omega, by omega, by omega, trivial, PW.mono (two_days n K F E h) fun r μ hp => ?_⟩
      obtain ⟨n1, K1, F1, E1⟩ := μ
      obtain ⟨v, rfl, ou, hK1, pc⟩ := hp
      have kx1 : K1 x0 = (20, len) := ((ou x0 hx).1).trans kx
      have ex1 : E1 x0 = E x0 := (ou x0 hx).2
      dsimp only at hK1
      refine vL_law_1248 x0 0 66 i v ?_
      simp only [kx1, hK1.k66, ex1]
      refine ⟨by omega, trivial, by omega, by omega, by omega, trivial, PW.mono pc fun r μ hp => ?_⟩
      obtain ⟨n2, K2, F2, E2⟩ := μ
      obtain ⟨rfl, ou2, i2⟩ := hp
      exact vL_law_1262 x0 0 66 i v v ⟨fun _ => nxt _ n2 K2 F2 E2 (by omega) (by show bg.1 ≤ bg.1 + 4; omega) (by show bg.2 ≤ bg.2 + 900; omega) (((ou2 x0 hx).1).trans kx1) i2, fun z => absurd rfl z⟩
    · -- 34 drawn
      refine vL_law_1267 x0 0 66 i ?_
      simp only [kx, hK.k0]
      refine ⟨by omega, trivial, by omega, by omega, by omega, trivial, PW.mono (two_drawn n K F E h) fun r μ hp => ?_⟩
      obtain ⟨n1, K1, F1, E1⟩ := μ
      obtain ⟨v, rfl, ou, hK1, pc⟩ := hp
      have kx1 : K1 x0 = (20, len) := ((ou x0 hx).1).trans kx
      have ex1 : E1 x0 = E x0 := (ou x0 hx).2
      dsimp only at hK1
      refine vL_law_1281 x0 0 66 i v ?_
      simp only [kx1, hK1.k66, ex1]
      refine ⟨by omega, trivial, by omega, by omega, by omega, trivial, PW.mono pc fun r μ hp => ?_⟩
      obtain ⟨n2, K2, F2, E2⟩ := μ
      obtain ⟨rfl, ou2, i2⟩ := hp
      exact vL_law_1295 x0 0 66 i v v ⟨fun _ => nxt _ n2 K2 F2 E2 (by omega) (by show bg.1 ≤ bg.1 + 4; omega) (by show bg.2 ≤ bg.2 + 900; omega) (((ou2 x0 hx).1).trans kx1) i2, fun z => absurd rfl z⟩
    · -- 35 image
      refine vL_law_1300 x0 0 66 i ?_
      simp only [kx, hK.k0]
      refine ⟨by omega, trivial, by omega, trivial, PW.mono (two_image lawLOk n K F E h) fun r μ hp => ?_⟩
      obtain ⟨n1, K1, F1, E1⟩ := μ
      obtain ⟨v, rfl, ou, hK1, pc⟩ := hp
      have kx1 : K1 x0 = (20, len) := ((ou x0 hx).1).trans kx
      have ex1 : E1 x0 = E x0 := (ou x0 hx).2
      dsimp only at hK1
      refine vL_law_1309 x0 0 66 i v ?_
      simp only [kx1, hK1.k66, ex1]
      refine ⟨by omega, trivial, by omega, trivial, PW.mono pc fun r μ hp => ?_⟩
      obtain ⟨n2, K2, F2, E2⟩ := μ
      obtain ⟨rfl, ou2, i2⟩ := hp
      exact vL_law_1318 x0 0 66 i v v ⟨fun _ => nxt _ n2 K2 F2 E2 (by omega) (by show bg.1 ≤ bg.1 + 4; omega) (by show bg.2 ≤ bg.2 + 900; omega) (((ou2 x0 hx).1).trans kx1) i2, fun z => absurd rfl z⟩
    · -- 36 back
      refine vL_law_1323 x0 0 66 i ?_
      simp only [kx, hK.k0]
      refine ⟨by omega, trivial, by omega, trivial, PW.mono (two_back lawLOk n K F E h) fun r μ hp => ?_⟩
      obtain ⟨n1, K1, F1, E1⟩ := μ
      obtain ⟨v, rfl, ou, hK1, pc⟩ := hp
      have kx1 : K1 x0 = (20, len) := ((ou x0 hx).1).trans kx
      have ex1 : E1 x0 = E x0 := (ou x0 hx).2
      dsimp only at hK1
      refine vL_law_1332 x0 0 66 i v ?_
      simp only [kx1, hK1.k66, ex1]
      refine ⟨by omega, trivial, by omega, trivial, PW.mono pc fun r μ hp => ?_⟩
      obtain ⟨n2, K2, F2, E2⟩ := μ
      obtain ⟨rfl, ou2, i2⟩ := hp
      exact vL_law_1341 x0 0 66 i v v ⟨fun _ => nxt _ n2 K2 F2 E2 (by omega) (by show bg.1 ≤ bg.1 + 4; omega) (by show bg.2 ≤ bg.2 + 900; omega) (((ou2 x0 hx).1).trans kx1) i2, fun z => absurd rfl z⟩
    · -- 37 count
      refine vL_law_1346 x0 0 66 i ?_
      simp only [kx, hK.k0]
      refine ⟨by omega, trivial, by omega, trivial, PW.mono (two_count n K F E h) fun r μ hp => ?_⟩
      obtain ⟨n1, K1, F1, E1⟩ := μ
      obtain ⟨v, rfl, ou, hK1, pc⟩ := hp
      have kx1 : K1 x0 = (20, len) := ((ou x0 hx).1).trans kx
      have ex1 : E1 x0 = E x0 := (ou x0 hx).2
      dsimp only at hK1
      refine vL_law_1355 x0 0 66 i v ?_
      simp only [kx1, hK1.k66, ex1]
      refine ⟨by omega, trivial, by omega, trivial, PW.mono pc fun r μ hp => ?_⟩
      obtain ⟨n2, K2, F2, E2⟩ := μ
      obtain ⟨rfl, ou2, i2⟩ := hp
      exact vL_law_1364 x0 0 66 i v v ⟨fun _ => nxt _ n2 K2 F2 E2 (by omega) (by show bg.1 ≤ bg.1 + 4; omega) (by show bg.2 ≤ bg.2 + 900; omega) (((ou2 x0 hx).1).trans kx1) i2, fun z => absurd rfl z⟩
    · -- 38 status
      refine vL_law_1369 x0 0 66 i ?_
      simp only [kx, hK.k0]
      refine ⟨trivial, PW.mono (two_status n K F E h) fun r μ hp => ?_⟩
      obtain ⟨n1, K1, F1, E1⟩ := μ
      obtain ⟨v, rfl, ou, hK1, pc⟩ := hp
      have kx1 : K1 x0 = (20, len) := ((ou x0 hx).1).trans kx
      dsimp only at hK1
      refine vL_law_1373 x0 0 66 i v ?_
      simp only [kx1, hK1.k66]
      refine ⟨trivial, PW.mono pc fun r μ hp => ?_⟩
      obtain ⟨n2, K2, F2, E2⟩ := μ
      obtain ⟨rfl, ou2, i2⟩ := hp
      exact vL_law_1377 x0 0 66 i v v ⟨fun _ => nxt _ n2 K2 F2 E2 (by omega) (by show bg.1 ≤ bg.1 + 4; omega) (by show bg.2 ≤ bg.2 + 900; omega) (((ou2 x0 hx).1).trans kx1) i2, fun z => absurd rfl z⟩
