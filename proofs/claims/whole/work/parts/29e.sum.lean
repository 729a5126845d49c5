/-! TERMS AND SUMS in the class -/
section C
variable {l : Launch} {G : pG} {lw : Bool}
theorem c_readTerm {dd : Int} {d e : Nat} (hd : e + 1 ≤ d) (hB : 12 ≤ d) (hp : CC lw l G 0 dd e mX5_readPart) : CC lw l G 1 dd d mX5_readTerm := by
  intro bg n K F E Q T t p h ho
  have h' := h
  obtain ⟨⟨hK, hF⟩, h2, ⟨h4, t0, t1, T1⟩, ⟨h3, p0, p1⟩, ⟨hT, hn⟩, l0, l1⟩ := h'
  have R := (gr_rules (lw := lw) (kd := E 24) (nm := E 26)).2.2.1
  have lp : ∀ (w : Nat) (i u q : Int) (f : tPhi) (F1 E1 : Int → Int → Int), T - u ≤ w → 0 ≤ i → i < u → FrL F E F1 E1 → F1 20 4 = u → F1 20 3 = q → t < u → u ≤ T → p < q → q ≤ 50 → F1 27 3 ≤ F 27 3 + 2 * (u - t) → SegC (E1 29) (F 27 3) (F1 27 3) f (q - p) (nwL lw) → PhOk f (nwL lw) → (∀ ok t2 p2 g, Gr lw (E 24) (E 26) 2 dd u q f ok t2 p2 g → Gr lw (E 24) (E 26) 1 dd t p pZ ok t2 p2 g) → PW l G d mX5_readTerm bg 12 [(0, (2, 20)), (1, (0, dd)), (2, (0, i))] [] (n, K, F1, E1) Q := by
    intro w
    induction w with
    | zero =>
      intro i u q f F1 E1 hw i0 i1 w1 e4 e3 tu uT pq q50 hl sc ph ct
      obtain rfl : u = T := by omega
      have e24 : E1 24 = E 24 := w1.e.1
      have k0 : tO (E 24 u) = 0 := by rw [hT]; decide
      refine vX5_readTerm_12 hd hB 20 dd i ?_
      simp only [w1.2.1.f20_0, w1.2.1.f21_1, hK.k20, hK.k21, hK.k24, e4, e24, hT]
      have fin := ho.2 F1 E1 u q f w1 e4 e3 tu uT pq q50 hl sc ph (ct true u q f (R.2.2.1 dd u q f k0))
      exact ⟨fun z => absurd z (by omega), fun _ => ⟨trivial, trivial, trivial, by omega, fun z => absurd z (by decide), fun _ => ⟨fun z => absurd z (by decide), fun _ => ⟨fun _ => fin, fun z => absurd z (by decide)⟩⟩⟩⟩
    | succ w ihw =>
      intro i u q f F1 E1 hw i0 i1 w1 e4 e3 tu uT pq q50 hl sc ph ct
      have e24 : E1 24 = E 24 := w1.e.1
      have e26 : E1 26 = E 26 := w1.e.2
      have go : ∀ o, tO (E 24 u) = o → o ≠ 0 → (o = 8 ∨ o = 9 ∨ o = 10) → ∀ F2, F2 = pUp F1 20 4 (u + 1) → PC l G e mX5_readPart (0, 0) [(2, 20), (0, dd)] (n, K, F2, E1) (fun r μ => PW l G d mX5_readTerm bg 92 [(0, (2, 20)), (1, (0, dd)), (2, (0, i)), (3, (0, o))] (r.toList ++ []) μ Q) := by
        intro o eo no os F2 f2
        have ul : u < T := by
          by_cases z : u = T
          · rw [z, hT] at eo
            have e0 : tO 256 = 0 := by decide
            omega
          · omega
        have w2 : FrL F E F2 E1 := by rw [f2]; exact w1.at (Or.inr rfl)
        have a4 : F2 20 4 = u + 1 := by rw [f2, pUp_s]
        have a3 : F2 20 3 = q := by rw [f2, pUp_k (by decide)]; exact e3
        have al : F2 27 3 = F1 27 3 := by rw [f2, pUp_a (by decide)]
        have g1 := w1.2.2.2.2
        refine hp (0, 0) n K F2 E1 _ T (u + 1) q (h.next w2 a4 a3 (by omega) (by omega) (by omega)) ⟨fun F3 E3 t' p' g w3 b4 b1 b2 gr => ?_, fun F3 E3 t' p' g w3 b4 b3 b1 b2 b5 b6 b7 sg ph2 gr => ?_⟩
        · rw [e24, e26] at gr
          exact vX5_readTerm_92 hd hB 20 dd i o 0 ⟨fun z => absurd rfl z, fun _ => ho.1 F3 E3 t' p' pZ (w2.trans w3) b4 (by omega) b2 (ct false t' p' pZ (R.2.2.2.1 dd u q f t' p' g (by omega) gr))⟩
        · rw [e24, e26] at gr
          have hF3 := w3.2.1
          have g3 := w3.2.2.2.2
          refine vX5_readTerm_92 hd hB 20 dd i o 1 ⟨fun _ => ⟨by rw [hK.k20], by rw [hF3.f20_1, hK.k27], ?_⟩, fun z => absurd z (by decide)⟩
          rw [hF3.f20_1]
          refine c_emit hK hF3 (by omega) (by omega) fun F5 E5 w5 c3 ca cb ck => ?_
          refine vX5_readTerm_106 hd hB 20 dd i _ ⟨by omega, ?_⟩
          rw [al] at sg
          have s1 : SegC (E5 29) (F 27 3) (F1 27 3) f (q - p) (nwL lw) := sc.congr fun j j0 j1 => by rw [w5.2.2.2.1 j (by omega), w3.2.2.2.1 j (by omega)]
          have s2 : SegC (E5 29) (F1 27 3) (F3 27 3) g (p' - q) (nwL lw) := sg.congr fun j j0 j1 => w5.2.2.2.1 j (by omega)
          have s3 := segC_bin (o := o) l0 g1 (by omega) (by omega) (by omega) s1 s2 ph ph2 (by omega) ca
          rw [show q - p + (p' - q) = p' - p by omega, ← c3] at s3
          refine ihw (i + 1) t' p' (pBin o f g) F5 E5 (by omega) (by omega) (by omega) ((w2.trans w3).trans w5) (by rw [ck 4]; exact b4) (by rw [ck 3]; exact b3) (by omega) b2 (by omega) b6 (by omega) s3 PhOk.bin fun ok t2 p2 k gk => ct ok t2 p2 k (R.2.2.2.2 dd u q f t' p' g ok t2 p2 k (by omega) gr (by rw [eo]; exact gk))
      have fin : tO (E 24 u) = 0 → Q (some (0, 1)) (n, K, F1, E1) := fun k0 => ho.2 F1 E1 u q f w1 e4 e3 tu uT pq q50 hl sc ph (ct true u q f (R.2.2.1 dd u q f k0))
      refine vX5_readTerm_12 hd hB 20 dd i ?_
      simp only [w1.2.1.f20_0, w1.2.1.f21_1, hK.k20, hK.k21, hK.k24, e4, e24]
      refine ⟨fun z => absurd z (by omega), fun _ => ⟨trivial, trivial, trivial, by omega, fun z => ⟨fun a => absurd z a, fun _ => ⟨by omega, go 8 (by unfold tO; rw [if_pos z]) (by decide) (by decide)⟩⟩, fun z => ⟨fun y => ⟨fun _ => ⟨fun a => absurd y a, fun _ => ⟨by omega, go 9 (by unfold tO; rw [if_neg z, if_pos y]) (by decide) (by decide)⟩⟩, fun a => absurd a z⟩, fun y => ⟨fun x => fin (by unfold tO; rw [if_neg z, if_neg y, if_neg x]), fun x => ⟨fun _ => ⟨fun _ => ⟨by omega, go 10 (by unfold tO; rw [if_neg z, if_neg y, if_pos x]) (by decide) (by decide)⟩, fun a => absurd a y⟩, fun a => absurd a z⟩⟩⟩⟩⟩
  refine vX5_readTerm_0 hd hB 20 dd ⟨by rw [hK.k20], hp (0, 0) n K F E _ T t p h ⟨fun F1 E1 t' p' f w1 b4 b1 b2 g => ?_, fun F1 E1 t' p' f w1 b4 b3 b1 b2 b5 b6 b7 sg ph g => ?_⟩⟩
  · exact vX5_readTerm_5 hd hB 20 dd 0 ⟨fun z => absurd rfl z, fun _ => ho.1 F1 E1 t' p' pZ w1 b4 b1 b2 (R.1 dd t p t' p' f g)⟩
  · exact vX5_readTerm_5 hd hB 20 dd 1 ⟨fun _ => lp (T - t').toNat 0 t' p' f F1 E1 (by omega) (by decide) (by omega) w1 b4 b3 b1 b2 b5 b6 b7 sg ph (fun ok t2 p2 k gk => R.2.1 dd t p t' p' f ok t2 p2 k g gk), fun z => absurd z (by decide)⟩
theorem c_readSum {dd : Int} {d e : Nat} (hd : e + 1 ≤ d) (hB : 12 ≤ d) (hp : CC lw l G 1 dd e mX5_readTerm) : CC lw l G 3 dd d mX5_readSum := by
  intro bg n K F E Q T t p h ho
  have h' := h
  obtain ⟨⟨hK, hF⟩, h2, ⟨h4, t0, t1, T1⟩, ⟨h3, p0, p1⟩, ⟨hT, hn⟩, l0, l1⟩ := h'
  have R := (gr_rules (lw := lw) (kd := E 24) (nm := E 26)).2.2.2.1
  have lp : ∀ (w : Nat) (i u q : Int) (f : tPhi) (F1 E1 : Int → Int → Int), T - u ≤ w → 0 ≤ i → i < u → FrL F E F1 E1 → F1 20 4 = u → F1 20 3 = q → t < u → u ≤ T → p < q → q ≤ 50 → F1 27 3 ≤ F 27 3 + 2 * (u - t) → SegC (E1 29) (F 27 3) (F1 27 3) f (q - p) (nwL lw) → PhOk f (nwL lw) → (∀ ok t2 p2 g, Gr lw (E 24) (E 26) 4 dd u q f ok t2 p2 g → Gr lw (E 24) (E 26) 3 dd t p pZ ok t2 p2 g) → PW l G d mX5_readSum bg 12 [(0, (2, 20)), (1, (0, dd)), (2, (0, i))] [] (n, K, F1, E1) Q := by
    intro w
    induction w with
    | zero =>
      intro i u q f F1 E1 hw i0 i1 w1 e4 e3 tu uT pq q50 hl sc ph ct
      obtain rfl : u = T := by omega
      have e24 : E1 24 = E 24 := w1.e.1
      have k0 : sO (E 24 u) = 0 := by rw [hT]; decide
      refine vX5_readSum_12 hd hB 20 dd i ?_
      simp only [w1.2.1.f20_0, w1.2.1.f21_1, hK.k20, hK.k21, hK.k24, e4, e24, hT]
      have fin := ho.2 F1 E1 u q f w1 e4 e3 tu uT pq q50 hl sc ph (ct true u q f (R.2.2.1 dd u q f k0))
      exact ⟨fun z => absurd z (by omega), fun _ => ⟨trivial, trivial, trivial, by omega, fun z => absurd z (by decide), fun _ => ⟨fun _ => fin, fun z => absurd z (by decide)⟩⟩⟩
    | succ w ihw =>
      intro i u q f F1 E1 hw i0 i1 w1 e4 e3 tu uT pq q50 hl sc ph ct
      have e24 : E1 24 = E 24 := w1.e.1
      have e26 : E1 26 = E 26 := w1.e.2
      have go : ∀ o, sO (E 24 u) = o → o ≠ 0 → (o = 6 ∨ o = 7) → ∀ F2, F2 = pUp F1 20 4 (u + 1) → PC l G e mX5_readTerm (0, 0) [(2, 20), (0, dd)] (n, K, F2, E1) (fun r μ => PW l G d mX5_readSum bg 69 [(0, (2, 20)), (1, (0, dd)), (2, (0, i)), (3, (0, o))] (r.toList ++ []) μ Q) := by
        intro o eo no os F2 f2
        have ul : u < T := by
          by_cases z : u = T
          · rw [z, hT] at eo
            have e0 : sO 256 = 0 := by decide
            omega
          · omega
        have w2 : FrL F E F2 E1 := by rw [f2]; exact w1.at (Or.inr rfl)
        have a4 : F2 20 4 = u + 1 := by rw [f2, pUp_s]
        have a3 : F2 20 3 = q := by rw [f2, pUp_k (by decide)]; exact e3
        have al : F2 27 3 = F1 27 3 := by rw [f2, pUp_a (by decide)]
        have g1 := w1.2.2.2.2
        refine hp (0, 0) n K F2 E1 _ T (u + 1) q (h.next w2 a4 a3 (by omega) (by omega) (by omega)) ⟨fun F3 E3 t' p' g w3 b4 b1 b2 gr => ?_, fun F3 E3 t' p' g w3 b4 b3 b1 b2 b5 b6 b7 sg ph2 gr => ?_⟩
        · rw [e24, e26] at gr
          exact vX5_readSum_69 hd hB 20 dd i o 0 ⟨fun z => absurd rfl z, fun _ => ho.1 F3 E3 t' p' pZ (w2.trans w3) b4 (by omega) b2 (ct false t' p' pZ (R.2.2.2.1 dd u q f t' p' g (by omega) gr))⟩
        · rw [e24, e26] at gr
          have hF3 := w3.2.1
          have g3 := w3.2.2.2.2
          refine vX5_readSum_69 hd hB 20 dd i o 1 ⟨fun _ => ⟨by rw [hK.k20], by rw [hF3.f20_1, hK.k27], ?_⟩, fun z => absurd z (by decide)⟩
          rw [hF3.f20_1]
          refine c_emit hK hF3 (by omega) (by omega) fun F5 E5 w5 c3 ca cb ck => ?_
          refine vX5_readSum_83 hd hB 20 dd i _ ⟨by omega, ?_⟩
          rw [al] at sg
          have s1 : SegC (E5 29) (F 27 3) (F1 27 3) f (q - p) (nwL lw) := sc.congr fun j j0 j1 => by rw [w5.2.2.2.1 j (by omega), w3.2.2.2.1 j (by omega)]
          have s2 : SegC (E5 29) (F1 27 3) (F3 27 3) g (p' - q) (nwL lw) := sg.congr fun j j0 j1 => w5.2.2.2.1 j (by omega)
          have s3 := segC_bin (o := o) l0 g1 (by omega) (by omega) (by omega) s1 s2 ph ph2 (by omega) ca
          rw [show q - p + (p' - q) = p' - p by omega, ← c3] at s3
          refine ihw (i + 1) t' p' (pBin o f g) F5 E5 (by omega) (by omega) (by omega) ((w2.trans w3).trans w5) (by rw [ck 4]; exact b4) (by rw [ck 3]; exact b3) (by omega) b2 (by omega) b6 (by omega) s3 PhOk.bin fun ok t2 p2 k gk => ct ok t2 p2 k (R.2.2.2.2 dd u q f t' p' g ok t2 p2 k (by omega) gr (by rw [eo]; exact gk))
      have fin : sO (E 24 u) = 0 → Q (some (0, 1)) (n, K, F1, E1) := fun k0 => ho.2 F1 E1 u q f w1 e4 e3 tu uT pq q50 hl sc ph (ct true u q f (R.2.2.1 dd u q f k0))
      refine vX5_readSum_12 hd hB 20 dd i ?_
      simp only [w1.2.1.f20_0, w1.2.1.f21_1, hK.k20, hK.k21, hK.k24, e4, e24]
      refine ⟨fun z => absurd z (by omega), fun _ => ⟨trivial, trivial, trivial, by omega, fun z => ⟨fun a => absurd z a, fun _ => ⟨by omega, go 6 (by unfold sO; rw [if_pos z]) (by decide) (by decide)⟩⟩, fun z => ⟨fun y => fin (by unfold sO; rw [if_neg z, if_neg y]), fun y => ⟨fun _ => ⟨by omega, go 7 (by unfold sO; rw [if_neg z, if_pos y]) (by decide) (by decide)⟩, fun a => absurd a z⟩⟩⟩⟩
  refine vX5_readSum_0 hd hB 20 dd ⟨by rw [hK.k20], hp (0, 0) n K F E _ T t p h ⟨fun F1 E1 t' p' f w1 b4 b1 b2 g => ?_, fun F1 E1 t' p' f w1 b4 b3 b1 b2 b5 b6 b7 sg ph g => ?_⟩⟩
  · exact vX5_readSum_5 hd hB 20 dd 0 ⟨fun z => absurd rfl z, fun _ => ho.1 F1 E1 t' p' pZ w1 b4 b1 b2 (R.1 dd t p t' p' f g)⟩
  · exact vX5_readSum_5 hd hB 20 dd 1 ⟨fun _ => lp (T - t').toNat 0 t' p' f F1 E1 (by omega) (by decide) (by omega) w1 b4 b3 b1 b2 b5 b6 b7 sg ph (fun ok t2 p2 k gk => R.2.1 dd t p t' p' f ok t2 p2 k g gk), fun z => absurd z (by decide)⟩
end C
