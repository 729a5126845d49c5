/-! BOTH AND TESTS in the class -/
section C
variable {l : Launch} {G : pG} {lw : Bool}
theorem c_readBoth {dd : Int} {d e : Nat} (hd : e + 1 ≤ d) (hB : 12 ≤ d) (hp : CT lw l G 6 dd e mX5_readPlain) : CT lw l G 7 dd d mX5_readBoth := by
  intro bg n K F E Q T t p h ho
  have h' := h
  obtain ⟨⟨hK, hF⟩, h2, ⟨h4, t0, t1, T1⟩, ⟨h3, p0, p1⟩, ⟨hT, hn⟩, l0, l1⟩ := h'
  have R := (gr_rules (lw := lw) (kd := E 24) (nm := E 26)).2.2.2.2.2.2.2.1
  have lp : ∀ (w : Nat) (i u q : Int) (f : tPhi) (F1 E1 : Int → Int → Int), T - u ≤ w → 0 ≤ i → i < u → FrL F E F1 E1 → F1 20 4 = u → F1 20 3 = q → t < u → u ≤ T → p < q → q ≤ 50 → F1 27 3 ≤ F 27 3 + 2 * (u - t) → SegC (E1 29) (F 27 3) (F1 27 3) f (q - p) (nwL lw) → Tst f → (∀ ok t2 p2 g, Gr lw (E 24) (E 26) 8 dd u q f ok t2 p2 g → Gr lw (E 24) (E 26) 7 dd t p pZ ok t2 p2 g) → PW l G d mX5_readBoth bg 12 [(0, (2, 20)), (1, (0, dd)), (2, (0, i))] [] (n, K, F1, E1) Q := by
    intro w
    induction w with
    | zero =>
      intro i u q f F1 E1 hw i0 i1 w1 e4 e3 tu uT pq q50 hl sc ph ct
      obtain rfl : u = T := by omega
      have e24 : E1 24 = E 24 := w1.e.1
      have k0 : aO (E 24 u) = 0 := by rw [hT]; decide
      have pre1 : PreL lw u u q K F1 E1 := h.next w1 e4 e3 (by omega) (by omega) (by omega)
      refine vX5_readBoth_12 hd hB 20 dd i ⟨fun z => absurd z (by omega), fun _ => ⟨by rw [hK.k20], c_skip pre1 (by decide) (fun z => ?_) (fun z => ?_)⟩⟩
      · exact vX5_readBoth_26 hd hB 20 dd i 0 ⟨fun _ => ho.2 F1 E1 u q f w1 e4 e3 tu uT pq q50 hl sc ph (ct true u q f (R.2.2.1 dd u q f k0)), fun a => absurd rfl a⟩
      · rw [e24, hT] at z
        exact absurd z (by decide)
    | succ w ihw =>
      intro i u q f F1 E1 hw i0 i1 w1 e4 e3 tu uT pq q50 hl sc ph ct
      have e24 : E1 24 = E 24 := w1.e.1
      have e26 : E1 26 = E 26 := w1.e.2
      have pre1 : PreL lw T u q K F1 E1 := h.next w1 e4 e3 (by omega) (by omega) (by omega)
      have g1 := w1.2.2.2.2
      refine vX5_readBoth_12 hd hB 20 dd i ⟨fun z => absurd z (by omega), fun _ => ⟨by rw [hK.k20], c_skip pre1 (by decide) (fun z => ?_) (fun z => ?_)⟩⟩
      · rw [e24] at z
        exact vX5_readBoth_26 hd hB 20 dd i 0 ⟨fun _ => ho.2 F1 E1 u q f w1 e4 e3 tu uT pq q50 hl sc ph (ct true u q f (R.2.2.1 dd u q f (by unfold aO; rw [if_neg z]))), fun a => absurd rfl a⟩
      · have ul := pre1.lt (by omega)
        rw [e24] at z
        have ko : aO (E 24 u) ≠ 0 := by unfold aO; rw [if_pos z]; decide
        have w2 : FrL F E (pUp F1 20 4 (u + 1)) E1 := w1.at (Or.inr rfl)
        have hF2 := w2.2.1
        have al : pUp F1 20 4 (u + 1) 27 3 = F1 27 3 := by rw [pUp_a (by decide)]
        refine vX5_readBoth_26 hd hB 20 dd i 1 ⟨fun a => absurd a (by decide), fun _ => ⟨by rw [hK.k20], by rw [hF2.f20_1, hK.k27], ?_⟩⟩
        rw [hF2.f20_1]
        refine c_emit hK hF2 (by omega) (by omega) fun F3 E3 w3 c3 ca cb ck => ?_
        rw [al] at c3 ca cb ⊢
        have w23 := w2.trans w3
        have k24 : E3 24 = E 24 := w23.e.1
        have k26 : E3 26 = E 26 := w23.e.2
        refine vX5_readBoth_38 hd hB 20 dd i _ ⟨by rw [hK.k20], ?_⟩
        refine hp (0, 0) n K F3 E3 _ T (u + 1) q (h.next w23 (by rw [ck 4, pUp_s]) (by rw [ck 3, pUp_k (by decide)]; exact e3) (by omega) (by omega) (by omega)) ⟨fun F4 E4 t' p' g w4 b4 b1 b2 gr => ?_, fun F4 E4 t' p' g w4 b4 b3 b1 b2 b5 b6 b7 sg ph2 gr => ?_⟩
        · rw [k24, k26] at gr
          exact vX5_readBoth_44 hd hB 20 dd i _ 0 ⟨fun a => absurd rfl a, fun _ => ho.1 F4 E4 t' p' pZ (w23.trans w4) b4 (by omega) b2 (ct false t' p' pZ (R.2.2.2.1 dd u q f t' p' g ko gr))⟩
        · rw [k24, k26] at gr
          have hF4 := w4.2.1
          have g4 := w4.2.2.2.2
          have w24 := w23.trans w4
          refine vX5_readBoth_44 hd hB 20 dd i _ 1 ⟨fun _ => ⟨by rw [hK.k20], by rw [hF4.f20_1, hK.k27], ?_⟩, fun a => absurd a (by decide)⟩
          rw [hF4.f20_1]
          refine vX9_landLeap_0 27 (F1 27 3) ?_
          simp only [hF4.f27_1, hK.k27, hK.k29]
          refine ⟨by omega, trivial, trivial, fun a => absurd a (by omega), fun _ => ⟨by decide, by omega, fun E5 e5 => ?_⟩⟩
          have o5 : ∀ j, j ≠ F1 27 3 + 1 → E5 29 j = E4 29 j := fun j hj => by rw [e5, pUp_k hj]
          have w5 : FrL F E F4 E5 := ⟨fun r hr => by rw [e5, pUp_an hr]; exact w24.1 r hr, hF4, w24.2.2.1, fun j hj => by rw [o5 j (by omega)]; exact w24.2.2.2.1 j hj, w24.2.2.2.2⟩
          have s1 : SegC (E5 29) (F 27 3) (F1 27 3) f (q - p) (nwL lw) := sc.congr fun j j0 j1 => by rw [o5 j (by omega), w4.2.2.2.1 j (by omega), w3.2.2.2.1 j (by omega)]
          rw [c3] at sg
          have s2 : SegC (E5 29) (F1 27 3 + 2) (F4 27 3) g (p' - q) (nwL lw) := sg.congr fun j j0 j1 => o5 j (by omega)
          have s3 := segC_and l0 g1 (by omega) (by omega) (by omega) s1 s2 (by rw [o5 _ (by omega), w4.2.2.2.1 _ (by omega)]; exact ca) (by rw [e5, pUp_s])
          rw [show q - p + (p' - q) = p' - p by omega] at s3
          refine vX5_readBoth_57 hd hB 20 dd i ⟨by omega, ?_⟩
          exact ihw (i + 1) t' p' (pAnd f g) F4 E5 (by omega) (by omega) (by omega) w5 b4 b3 (by omega) b2 (by omega) b6 (by omega) s3 (ph2.and) fun ok t2 p2 k gk => ct ok t2 p2 k (R.2.2.2.2 dd u q f t' p' g ok t2 p2 k ko gr gk)
  refine vX5_readBoth_0 hd hB 20 dd ⟨by rw [hK.k20], hp (0, 0) n K F E _ T t p h ⟨fun F1 E1 t' p' f w1 b4 b1 b2 g => ?_, fun F1 E1 t' p' f w1 b4 b3 b1 b2 b5 b6 b7 sg ph g => ?_⟩⟩
  · exact vX5_readBoth_5 hd hB 20 dd 0 ⟨fun z => absurd rfl z, fun _ => ho.1 F1 E1 t' p' pZ w1 b4 b1 b2 (R.1 dd t p t' p' f g)⟩
  · exact vX5_readBoth_5 hd hB 20 dd 1 ⟨fun _ => lp (T - t').toNat 0 t' p' f F1 E1 (by omega) (by decide) (by omega) w1 b4 b3 b1 b2 b5 b6 b7 sg ph (fun ok t2 p2 k gk => R.2.1 dd t p t' p' f ok t2 p2 k g gk), fun z => absurd z (by decide)⟩
theorem c_readTest {dd : Int} {d e : Nat} (hd : e + 1 ≤ d) (hB : 12 ≤ d) (hp : CT lw l G 7 dd e mX5_readBoth) : CT lw l G 9 dd d mX5_readTest := by
  intro bg n K F E Q T t p h ho
  have h' := h
  obtain ⟨⟨hK, hF⟩, h2, ⟨h4, t0, t1, T1⟩, ⟨h3, p0, p1⟩, ⟨hT, hn⟩, l0, l1⟩ := h'
  have R := (gr_rules (lw := lw) (kd := E 24) (nm := E 26)).2.2.2.2.2.2.2.2
  have lp : ∀ (w : Nat) (i u q : Int) (f : tPhi) (F1 E1 : Int → Int → Int), T - u ≤ w → 0 ≤ i → i < u → FrL F E F1 E1 → F1 20 4 = u → F1 20 3 = q → t < u → u ≤ T → p < q → q ≤ 50 → F1 27 3 ≤ F 27 3 + 2 * (u - t) → SegC (E1 29) (F 27 3) (F1 27 3) f (q - p) (nwL lw) → Tst f → (∀ ok t2 p2 g, Gr lw (E 24) (E 26) 10 dd u q f ok t2 p2 g → Gr lw (E 24) (E 26) 9 dd t p pZ ok t2 p2 g) → PW l G d mX5_readTest bg 12 [(0, (2, 20)), (1, (0, dd)), (2, (0, i))] [] (n, K, F1, E1) Q := by
    intro w
    induction w with
    | zero =>
      intro i u q f F1 E1 hw i0 i1 w1 e4 e3 tu uT pq q50 hl sc ph ct
      obtain rfl : u = T := by omega
      have e24 : E1 24 = E 24 := w1.e.1
      have k0 : oO (E 24 u) = 0 := by rw [hT]; decide
      have pre1 : PreL lw u u q K F1 E1 := h.next w1 e4 e3 (by omega) (by omega) (by omega)
      refine vX5_readTest_12 hd hB 20 dd i ⟨fun z => absurd z (by omega), fun _ => ⟨by rw [hK.k20], c_skip pre1 (by decide) (fun z => ?_) (fun z => ?_)⟩⟩
      · exact vX5_readTest_26 hd hB 20 dd i 0 ⟨fun _ => ho.2 F1 E1 u q f w1 e4 e3 tu uT pq q50 hl sc ph (ct true u q f (R.2.2.1 dd u q f k0)), fun a => absurd rfl a⟩
      · rw [e24, hT] at z
        exact absurd z (by decide)
    | succ w ihw =>
      intro i u q f F1 E1 hw i0 i1 w1 e4 e3 tu uT pq q50 hl sc ph ct
      have e24 : E1 24 = E 24 := w1.e.1
      have e26 : E1 26 = E 26 := w1.e.2
      have pre1 : PreL lw T u q K F1 E1 := h.next w1 e4 e3 (by omega) (by omega) (by omega)
      have g1 := w1.2.2.2.2
      refine vX5_readTest_12 hd hB 20 dd i ⟨fun z => absurd z (by omega), fun _ => ⟨by rw [hK.k20], c_skip pre1 (by decide) (fun z => ?_) (fun z => ?_)⟩⟩
      · rw [e24] at z
        exact vX5_readTest_26 hd hB 20 dd i 0 ⟨fun _ => ho.2 F1 E1 u q f w1 e4 e3 tu uT pq q50 hl sc ph (ct true u q f (R.2.2.1 dd u q f (by unfold oO; rw [if_neg z]))), fun a => absurd rfl a⟩
      · have ul := pre1.lt (by omega)
        rw [e24] at z
        have ko : oO (E 24 u) ≠ 0 := by unfold oO; rw [if_pos z]; decide
        have w2 : FrL F E (pUp F1 20 4 (u + 1)) E1 := w1.at (Or.inr rfl)
        have hF2 := w2.2.1
        have al : pUp F1 20 4 (u + 1) 27 3 = F1 27 3 := by rw [pUp_a (by decide)]
        refine vX5_readTest_26 hd hB 20 dd i 1 ⟨fun a => absurd a (by decide), fun _ => ⟨by rw [hK.k20], by rw [hF2.f20_1, hK.k27], ?_⟩⟩
        rw [hF2.f20_1]
        refine c_emit hK hF2 (by omega) (by omega) fun F3 E3 w3 c3 ca cb ck => ?_
        rw [al] at c3 ca cb ⊢
        have w23 := w2.trans w3
        have k24 : E3 24 = E 24 := w23.e.1
        have k26 : E3 26 = E 26 := w23.e.2
        refine vX5_readTest_38 hd hB 20 dd i _ ⟨by rw [hK.k20], ?_⟩
        refine hp (0, 0) n K F3 E3 _ T (u + 1) q (h.next w23 (by rw [ck 4, pUp_s]) (by rw [ck 3, pUp_k (by decide)]; exact e3) (by omega) (by omega) (by omega)) ⟨fun F4 E4 t' p' g w4 b4 b1 b2 gr => ?_, fun F4 E4 t' p' g w4 b4 b3 b1 b2 b5 b6 b7 sg ph2 gr => ?_⟩
        · rw [k24, k26] at gr
          exact vX5_readTest_44 hd hB 20 dd i _ 0 ⟨fun a => absurd rfl a, fun _ => ho.1 F4 E4 t' p' pZ (w23.trans w4) b4 (by omega) b2 (ct false t' p' pZ (R.2.2.2.1 dd u q f t' p' g ko gr))⟩
        · rw [k24, k26] at gr
          have hF4 := w4.2.1
          have g4 := w4.2.2.2.2
          have w24 := w23.trans w4
          refine vX5_readTest_44 hd hB 20 dd i _ 1 ⟨fun _ => ⟨by rw [hK.k20], by rw [hF4.f20_1, hK.k27], ?_⟩, fun a => absurd a (by decide)⟩
          rw [hF4.f20_1]
          refine vX9_landLeap_0 27 (F1 27 3) ?_
          simp only [hF4.f27_1, hK.k27, hK.k29]
          refine ⟨by omega, trivial, trivial, fun a => absurd a (by omega), fun _ => ⟨by decide, by omega, fun E5 e5 => ?_⟩⟩
          have o5 : ∀ j, j ≠ F1 27 3 + 1 → E5 29 j = E4 29 j := fun j hj => by rw [e5, pUp_k hj]
          have w5 : FrL F E F4 E5 := ⟨fun r hr => by rw [e5, pUp_an hr]; exact w24.1 r hr, hF4, w24.2.2.1, fun j hj => by rw [o5 j (by omega)]; exact w24.2.2.2.1 j hj, w24.2.2.2.2⟩
          have s1 : SegC (E5 29) (F 27 3) (F1 27 3) f (q - p) (nwL lw) := sc.congr fun j j0 j1 => by rw [o5 j (by omega), w4.2.2.2.1 j (by omega), w3.2.2.2.1 j (by omega)]
          rw [c3] at sg
          have s2 : SegC (E5 29) (F1 27 3 + 2) (F4 27 3) g (p' - q) (nwL lw) := sg.congr fun j j0 j1 => o5 j (by omega)
          have s3 := segC_or l0 g1 (by omega) (by omega) (by omega) s1 s2 (by rw [o5 _ (by omega), w4.2.2.2.1 _ (by omega)]; exact ca) (by rw [e5, pUp_s])
          rw [show q - p + (p' - q) = p' - p by omega] at s3
          refine vX5_readTest_57 hd hB 20 dd i ⟨by omega, ?_⟩
          exact ihw (i + 1) t' p' (pOr f g) F4 E5 (by omega) (by omega) (by omega) w5 b4 b3 (by omega) b2 (by omega) b6 (by omega) s3 (ph2.or) fun ok t2 p2 k gk => ct ok t2 p2 k (R.2.2.2.2 dd u q f t' p' g ok t2 p2 k ko gr gk)
  refine vX5_readTest_0 hd hB 20 dd ⟨by rw [hK.k20], hp (0, 0) n K F E _ T t p h ⟨fun F1 E1 t' p' f w1 b4 b1 b2 g => ?_, fun F1 E1 t' p' f w1 b4 b3 b1 b2 b5 b6 b7 sg ph g => ?_⟩⟩
  · exact vX5_readTest_5 hd hB 20 dd 0 ⟨fun z => absurd rfl z, fun _ => ho.1 F1 E1 t' p' pZ w1 b4 b1 b2 (R.1 dd t p t' p' f g)⟩
  · exact vX5_readTest_5 hd hB 20 dd 1 ⟨fun _ => lp (T - t').toNat 0 t' p' f F1 E1 (by omega) (by decide) (by omega) w1 b4 b3 b1 b2 b5 b6 b7 sg ph (fun ok t2 p2 k gk => R.2.1 dd t p t' p' f ok t2 p2 k g gk), fun z => absurd z (by decide)⟩
end C
