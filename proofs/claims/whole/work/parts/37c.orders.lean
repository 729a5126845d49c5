/-! THE PAIR orders -/
theorem inv_ord {G : pG} {n : Nat} {K : Int → Nat × Nat} {F E F1 E1 F2 E2 : Int → Int → Int} {c : Int → Int} (h : Inv lawLR G n K F E) (w1 : FrZc F E F1 E1) (w2 : FrZr F1 E1 F2 E2) (rk : RowOk (E 68) (E2 68) c) (ck : cz (E2 3) = c) (ci : CInv c)
    (ur : UR (F2 10 2) (F2 10 3) (E2 11) (E2 12) (F2 66 8) (E2 71) (E2 72)) (t1 : F2 22 1 = 0) (t2 : F2 66 13 = 0) (v : F2 66 18 = F2 0 17) (s : F2 66 1 = F2 0 16) (rf : RfR (E2 49) (E2 67)) (st : F2 66 70 = F2 44 5) (h20 : F2 66 20 = 0) : Inv lawLR G n K F2 E2 := by
  have eA : ∀ r, r ≠ 3 → r ≠ 11 → r ≠ 12 → r ≠ 14 → r ≠ 15 → r ≠ 17 → (r < 24 ∨ 29 < r) → r ≠ 32 → r ≠ 33 → (r < 36 ∨ 40 < r) → (r < 46 ∨ 49 < r) → (r < 67 ∨ 68 < r) → (r < 71 ∨ 74 < r) → (r < 76 ∨ 80 < r) → (r < 84 ∨ 95 < r) → r ≠ 103 → E2 r = E r := fun r a1 a2 a3 a4 a5 a6 a7 a8 a9 a10 a11 b1 b2 b3 b4 b5 => by rw [w2.1 r b1 b2 b3 b4 b5, w1.1 r a1 a2 a3 a4 a5 a6 a7 a8 a9 a10 a11]
  have fA : ∀ a k, a ≠ 66 → a ≠ 20 → a ≠ 27 → a ≠ 30 → a ≠ 44 → ¬ (a = 10 ∧ (k = 2 ∨ k = 3)) → ¬ (a = 13 ∧ (k = 2 ∨ k = 3)) → ¬ (a = 0 ∧ (k = 16 ∨ k = 17)) → ¬ (a = 22 ∧ k = 1) → F2 a k = F a k := fun a k b0 b1 b2 b3 b4 b5 b6 b7 b8 => by rw [w2.2.2 a k (by omega), w1.2.2 a k b1 b2 b3 b4 b5 b6 b7 b8]
  have f66 : ∀ k, ¬ (k = 0 ∨ k = 1 ∨ k = 8 ∨ (13 ≤ k ∧ k ≤ 21) ∨ k = 23 ∨ k = 26 ∨ k = 29 ∨ k = 30 ∨ k = 34 ∨ (38 ≤ k ∧ k ≤ 40) ∨ (47 ≤ k ∧ k ≤ 56) ∨ (68 ≤ k ∧ k ≤ 71)) → F2 66 k = F 66 k := fun k q => by rw [w2.2.2 66 k (by omega), w1.2.2 66 k (by decide) (by decide) (by decide) (by decide) (by omega) (by omega) (by omega) (by omega)]
  have e1 : ∀ r, (r = 4 ∨ r = 5 ∨ r = 6 ∨ r = 7 ∨ r = 9 ∨ r = 70 ∨ r = 69 ∨ (50 ≤ r ∧ r ≤ 66) ∨ r = 19 ∨ r = 23 ∨ r = 41 ∨ r = 42 ∨ r = 43 ∨ r = 75 ∨ r = 81 ∨ r = 82 ∨ r = 83 ∨ r = 8 ∨ (96 ≤ r ∧ r ≤ 102) ∨ 104 ≤ r ∨ r < 0) → E2 r = E r := fun r hr => eA r (by omega) (by omega) (by omega) (by omega) (by omega) (by omega) (by omega) (by omega) (by omega) (by omega) (by omega) (by omega) (by omega) (by omega) (by omega) (by omega)
  have f1 : ∀ a k, (a = 1 ∨ a = 52 ∨ a = 59 ∨ a = 41 ∨ 105 ≤ a) → F2 a k = F a k := fun a k ha => fA a k (by omega) (by omega) (by omega) (by omega) (by omega) (by omega) (by omega) (by omega) (by omega)
  obtain ⟨hk, hi1, hi2, hu, htp, hlt, hst, h3, hd, h20'⟩ := h.2
  refine inv_act3 lawLOk h w2.2.1 (fun t ht => ?_) (fun a ha => e1 a (by omega)) (fun a ha => funext fun k => f1 a k (by omega)) (fun a ha => e1 a (by omega)) (fun a ha => e1 a (by omega)) (fun a k ha => f1 a k (by omega)) rk ck ci ur ?_ ⟨s, rf⟩ ⟨t2.trans t1.symm, by omega, fun i i0 i1 => absurd i1 (by omega)⟩ ⟨?_, v, st⟩ ?_ h20
  · have z : ∀ t ∈ eTab, t.1 = 8 ∨ t.1 = 81 ∨ t.1 = 82 ∨ t.1 = 83 ∨ t.1 = 102 := by decide
    have y := z t ht
    rw [e1 t.1 (by omega)]
    exact h.1.2.2.2.1 t ht
  · rw [f1 41 1 (by decide), f1 41 3 (by decide), f1 41 4 (by decide), e1 42 (by decide), e1 43 (by decide), f66 59 (by decide), f66 61 (by decide), f66 62 (by decide), e1 97 (by decide), e1 98 (by decide)]
    exact hlt
  · rw [f66 11 (by decide), fA 0 18 (by decide) (by decide) (by decide) (by decide) (by decide) (by omega) (by omega) (by omega) (by omega)]
    exact h3.1
  · rw [fA 0 7 (by decide) (by decide) (by decide) (by decide) (by decide) (by omega) (by omega) (by omega) (by omega), f66 74 (by decide), e1 19 (by decide), e1 104 (by decide)]
    exact hd
theorem two_orders {l : Launch} {G : pG} : Pair lawLR l G 83 mX11_orders (0, 0) 10 mX12_orders (0, 0) [] := by
  intro n K F E h
  have hK := h.KS
  have hF := h.FS
  have hCI := cinv_cz h.2.1.1.2
  obtain ⟨L, hl, hlr⟩ := inv_law h
  obtain ⟨⟨t1, t2, t3⟩, ti⟩ := inv_terms h
  obtain ⟨hk, hi1, hi2, hu, htp, hlt, hst, h3, hd, h20⟩ := h.2
  have hrel := hk.1.1
  obtain ⟨lge, lgi⟩ := ur_lg hu
  have so : SOk 0 (cz (E 3), lgC (F 10 2) (F 10 3) (E 11) (E 12), 0, -1) := ⟨hCI, lgi, ⟨Int.le_refl 0, Int.le_refl 0⟩, ⟨Int.le_refl (-1), (by decide : (-1 : Int) ≤ 20000)⟩⟩
  -- the reference
  have ref : ∀ (F1 E1 : Int → Int → Int) (T : Nat) (t' : Int) (ok : Bool) (C : Nat → tKl) (N : Nat) (Q : Option pV → pM → Prop), FrZc F E F1 E1 → TkC (E 75) (F 22 1) T E1 → TxG false (E1 24) (E1 26) 12 0 0 0 ok t' C N → (ok = true → ∀ c : Nat, c < N → KlC false (E1 28) (E1 29) (F1 27 3) c (C c)) →
      (ok = false → ∀ F' E', FrZr F1 E1 F' E' → F' 66 18 = tB (E 75) (F 22 1) t' → F' 66 13 = 0 → F' 66 20 = 0 → F' 66 70 = -1 → F' 66 1 = -6 → E' 67 = rUp (E 67) 6 (w32 (E 67 6 + 1)) → E' 68 = E 68 → (E' 71 = E 71 ∧ E' 72 = E 72) → F' 66 8 = F 66 8 → Q (some (0, -6)) (n, K, F', E')) →
      (ok = true → ∀ s', (oAll L (E 4 2) (E 4 0) C N 0 (cz (E 3), lgC (F 10 2) (F 10 3) (E 11) (E 12), 0, -1)).1 = some s' → ∀ F' E', FrZr F1 E1 F' E' → F' 66 18 = -1 → F' 66 13 = 0 → F' 66 20 = 0 → F' 66 70 = -1 → F' 66 1 = 0 → E' 67 = E 67 → RowOk (E 68) (E' 68) s'.1 → lgR (F' 66 8) (E' 72) (E' 71) = s'.2.1 → (0 ≤ F' 66 8 ∧ F' 66 8 ≤ 16) → 0 ≤ s'.2.2.1 → Q (some (0, s'.2.2.1)) (n, K, F', E')) →
      (ok = true → (oAll L (E 4 2) (E 4 0) C N 0 (cz (E 3), lgC (F 10 2) (F 10 3) (E 11) (E 12), 0, -1)).1 = none → ∀ F' E', FrZr F1 E1 F' E' → F' 66 18 = -1 → F' 66 13 = 0 → F' 66 20 = 0 → F' 66 70 = (oAll L (E 4 2) (E 4 0) C N 0 (cz (E 3), lgC (F 10 2) (F 10 3) (E 11) (E 12), 0, -1)).2 → F' 66 1 = -3 → E' 67 = rUp (E 67) 3 (w32 (E 67 3 + 1)) → RowOk (E 68) (E' 68) (cz (E 3)) → (∀ j, 0 ≤ j → j < 1872 → E' 71 j = E 71 j) → (∀ j, 0 ≤ j → j < 16 → E' 72 j = E 72 j) → F' 66 8 = F 66 8 → Q (some (0, -3)) (n, K, F', E')) → PC l G 10 mX12_orders (0, 0) [(2, 66)] (n, K, F1, E1) Q := by
    intro F1 E1 T t' ok C N Q w1 tk tx kl hA hB hC
    have er : ∀ r, 50 ≤ r → E1 r = E r := fun r hr => w1.1 r (by omega) (by omega) (by omega) (by omega) (by omega) (by omega) (by omega) (by omega) (by omega) (by omega) (by omega)
    have f66 : ∀ k, F1 66 k = F 66 k := fun k => w1.2.2 66 k (by decide) (by decide) (by decide) (by decide) (by omega) (by omega) (by omega) (by omega)
    have tke := tke_of htp.2.1 (fun j j0 j1 => (htp.2.2 j j0 j1).2) tk
    have e75 : E1 75 = E 75 := er 75 (by decide)
    have e68 : E1 68 = E 68 := er 68 (by decide)
    have e71 : E1 71 = E 71 := er 71 (by decide)
    have e72 : E1 72 = E 72 := er 72 (by decide)
    have e67 : E1 67 = E 67 := er 67 (by decide)
    refine r_orders (len := F 22 1) (T := T) (N := N) (C := C) (s0 := (cz (E 3), lgC (F 10 2) (F 10 3) (E 11) (E 12), 0, -1)) (L := L) (mood := E 4 2) (bud := E 4 0) hK w1.2.1 (fun t ht => ?_) (by rw [e75]; exact tke) (by rw [f66 13]; exact htp.1) tx (fun o c hc => ?_) (fun o c hc j j0 j3 j1 => ?_) (fun o c hc f ef => ?_) (by rw [e68]; exact rel_cz hrel) (by rw [f66 8, e72, e71]; exact lge) (by rw [f66 8, hu.2.2.1]; exact hu.2.1) rfl rfl so (by rw [e68]; exact hlr) hl.2 (by rw [e68]; exact t3) ti.2.2 (by rw [e68]; exact t1) ?_ ?_ ?_
    · have z : ∀ t ∈ eTab, t.1 = 8 ∨ 50 ≤ t.1 := by decide
      rcases z t ht with y | y
      · rw [w1.1 t.1 (by omega) (by omega) (by omega) (by omega) (by omega) (by omega) (by omega) (by omega) (by omega) (by omega) (by omega)]; exact h.1.2.2.2.1 t ht
      · rw [er t.1 y]; exact h.1.2.2.2.1 t ht
    · subst o
      exact (txg_ok tke 12 0 tx (by decide) (by omega)).2 c (by omega) hc
    · exact ((kl o c hc).2.2.2 j j0 j3).1 j1 |>.2
    · have q := (kl o c hc).2.2.1
      rw [ef] at q
      exact q.2.2
    · rw [e75, e67, e68, e71, e72, f66 8]; exact hA
    · rw [e67, e68]; exact hB
    · rw [e67, e68, e71, e72, f66 8]; exact hC
  refine c_orders (tp := E 75) (len := F 22 1) (s0 := (cz (E 3), lgC (F 10 2) (F 10 3) (E 11) (E 12), 0, -1)) (L := L) (mood := E 4 2) (bud := E 4 0) hK hF htp.2.1 rfl (fun j j0 j1 => ((htp.2.2 j j0 j1).1).symm) (fun j j0 j1 => (htp.2.2 j j0 j1).2) rfl rfl ⟨hu.1, hu.2.1⟩ rfl rfl so hl rfl ti.2.2 rfl (fun F1 E1 T t' C N w1 tk u0 u1 tx a1 a2 a3 a4 a5 a6 a7 => ?_) (fun F1 E1 T t' C N s' w1 tk u0 u1 tx kl oo sk a1 a2 a3 a4 a5 co => ?_) (fun F1 E1 T t' C N w1 tk u0 u1 tx kl oo a1 a2 a3 a4 a5 a6 a7 a8 a9 => ?_)
  · -- it can't be
    refine ⟨-6, rfl, fun a ha => ⟨rfl, w1.1 a (by omega) (by omega) (by omega) (by omega) (by omega) (by omega) (by omega) (by omega) (by omega) (by omega) (by omega)⟩, hK, ?_⟩
    refine ref F1 E1 T t' false C N _ w1 tk tx (fun q => by cases q) (fun _ F2 E2 w2 b1 b2 b3 b4 b5 b6 b7 b8 b9 => ⟨rfl, fun a ha => ⟨rfl, w2.1 a (by omega) (by omega) (by omega) (by omega) (by omega)⟩, ?_⟩) (fun q => by cases q) (fun q => by cases q)
    show Inv lawLR G n K F2 E2
    have f2 : ∀ a k, a ≠ 66 → F2 a k = F1 a k := fun a k ha => w2.2.2 a k (by omega)
    have e2 : ∀ r, r < 66 → E2 r = E1 r := fun r hr => w2.1 r (by omega) (by omega) (by omega) (by omega) (by omega)
    refine inv_ord (c := cz (E 3)) h w1 w2 ⟨by rw [b7]; exact rel_cz hrel, fun j _ => by rw [b7]⟩ (by rw [e2 3 (by decide), a6 3 (by decide)]) hCI ?_ ?_ b2 ?_ ?_ ?_ ?_ b3
    · rw [f2 10 2 (by decide), f2 10 3 (by decide), e2 11 (by decide), e2 12 (by decide), a7.1, a7.2, a6 11 (by decide), a6 12 (by decide), b9, b8.1, b8.2]; exact hu
    · rw [f2 22 1 (by decide)]; exact a2
    · rw [b1, f2 0 17 (by decide), a1]; rfl
    · rw [b5, f2 0 16 (by decide), a3]
    · rw [b6, e2 49 (by decide), a5]; exact hst.2.up (by decide)
    · rw [b4, f2 44 5 (by decide), a4]
  · -- all are done
    refine ⟨s'.2.2.1, rfl, fun a ha => ⟨rfl, w1.1 a (by omega) (by omega) (by omega) (by omega) (by omega) (by omega) (by omega) (by omega) (by omega) (by omega) (by omega)⟩, hK, ?_⟩
    refine ref F1 E1 T t' true C N _ w1 tk tx (fun _ => kl) (fun q => by cases q) (fun _ s2 o2 F2 E2 w2 b1 b2 b3 b4 b5 b6 b7 b8 b9 b10 => ?_) (fun _ o2 => by rw [oo] at o2; cases o2)
    rw [oo] at o2
    injection o2 with o2
    subst o2
    refine ⟨rfl, fun a ha => ⟨rfl, w2.1 a (by omega) (by omega) (by omega) (by omega) (by omega)⟩, ?_⟩
    show Inv lawLR G n K F2 E2
    have f2 : ∀ a k, a ≠ 66 → F2 a k = F1 a k := fun a k ha => w2.2.2 a k (by omega)
    have e2 : ∀ r, r < 66 → E2 r = E1 r := fun r hr => w2.1 r (by omega) (by omega) (by omega) (by omega) (by omega)
    obtain ⟨q1, q2, q3, q4, q5⟩ := co
    have sz : F2 66 8 = F1 10 3 := by
      have e := b8.trans q2.symm
      have e' := congrArg List.length e
      rw [lgR_len, lgC_len] at e'
      omega
    refine inv_ord (c := s'.1) h w1 w2 b7 (by rw [e2 3 (by decide)]; exact q1) sk.1 ?_ ?_ b2 ?_ ?_ ?_ ?_ b3
    · rw [f2 10 2 (by decide), f2 10 3 (by decide), e2 11 (by decide), e2 12 (by decide), sz]
      rw [sz] at b8
      exact lg_ur q3.1.1 q3.1.2 q3.2.1 q3.2.2 (b8.trans q2.symm) (by rw [q2]; exact sk.2.1)
    · rw [f2 22 1 (by decide)]; exact a2
    · rw [b1, f2 0 17 (by decide), a1]
    · rw [b5, f2 0 16 (by decide), a3]
    · rw [b6, e2 49 (by decide), a5]; exact hst.2
    · rw [b4, f2 44 5 (by decide), a4]
  · -- it stops
    refine ⟨-3, rfl, fun a ha => ⟨rfl, w1.1 a (by omega) (by omega) (by omega) (by omega) (by omega) (by omega) (by omega) (by omega) (by omega) (by omega) (by omega)⟩, hK, ?_⟩
    refine ref F1 E1 T t' true C N _ w1 tk tx (fun _ => kl) (fun q => by cases q) (fun _ s2 o2 => by rw [oo] at o2; cases o2) (fun _ o2 F2 E2 w2 b1 b2 b3 b4 b5 b6 b7 b8 b9 b10 => ?_)
    refine ⟨rfl, fun a ha => ⟨rfl, w2.1 a (by omega) (by omega) (by omega) (by omega) (by omega)⟩, ?_⟩
    show Inv lawLR G n K F2 E2
    have f2 : ∀ a k, a ≠ 66 → F2 a k = F1 a k := fun a k ha => w2.2.2 a k (by omega)
    have e2 : ∀ r, r < 66 → E2 r = E1 r := fun r hr => w2.1 r (by omega) (by omega) (by omega) (by omega) (by omega)
    refine inv_ord (c := cz (E 3)) h w1 w2 b7 (by rw [e2 3 (by decide)]; exact a6) hCI ?_ ?_ b2 ?_ ?_ ?_ ?_ b3
    · rw [f2 10 2 (by decide), f2 10 3 (by decide), e2 11 (by decide), e2 12 (by decide), a9.1, a9.2, b10]
      exact hu.congr2 b8 b9 a7 a8
    · rw [f2 22 1 (by decide)]; exact a2
    · rw [b1, f2 0 17 (by decide), a1]
    · rw [b5, f2 0 16 (by decide), a3]
    · rw [b6, e2 49 (by decide), a5]; exact hst.2.up (by decide)
    · rw [b4, f2 44 5 (by decide), a4]
