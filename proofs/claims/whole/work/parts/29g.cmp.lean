/-! COMPARED in the class -/
def OutT (lw : Bool) (T md d t p : Int) (n : Nat) (K : Int → Nat × Nat) (F E : Int → Int → Int) (Q : Option pV → pM → Prop) : Prop :=
  (∀ F' E' t' p' f, FrL F E F' E' → F' 20 4 = t' → t ≤ t' → t' ≤ T → Gr lw (E 24) (E 26) md d t p pZ false t' p' f → Q (some (0, 0)) (n, K, F', E')) ∧
  (∀ F' E' t' p' f, FrL F E F' E' → F' 20 4 = t' → F' 20 3 = p' → t < t' → t' ≤ T → p < p' → p' ≤ 50 → F' 27 3 ≤ F 27 3 + 2 * (t' - t) → SegC (E' 29) (F 27 3) (F' 27 3) f (p' - p) (nwL lw) → Tst f → Gr lw (E 24) (E 26) md d t p pZ true t' p' f → Q (some (0, 1)) (n, K, F', E'))
/-- the contract of a mode that reads a test -/
def CT (lw : Bool) (l : Launch) (G : pG) (md dd : Int) (d : Nat) (M : pMeth) : Prop := ∀ (bg : Nat × Nat) (n : Nat) (K : Int → Nat × Nat) (F E : Int → Int → Int) (Q : Option pV → pM → Prop) (T t p : Int), PreL lw T t p K F E → OutT lw T md dd t p n K F E Q → PC l G d M bg [(2, 20), (0, dd)] (n, K, F, E) Q
theorem c_readCompared {l : Launch} {G : pG} {lw : Bool} {dd : Int} {d e : Nat} (hd : e + 1 ≤ d) (hB : 12 ≤ d) (hp : CC lw l G 3 dd e mX5_readSum) : CT lw l G 5 dd d mX5_readCompared := by
  intro bg n K F E Q T t p h ho
  have h' := h
  obtain ⟨⟨hK, hF⟩, h2, ⟨h4, t0, t1, T1⟩, ⟨h3, p0, p1⟩, ⟨hT, hn⟩, l0, l1⟩ := h'
  have R := (gr_rules (lw := lw) (kd := E 24) (nm := E 26)).2.2.2.2.1
  refine vX5_readCompared_0 hd hB 20 dd ⟨by rw [hK.k20], hp (0, 0) n K F E _ T t p h ⟨fun F1 E1 u q f w1 b4 b1 b2 g => ?_, fun F1 E1 u q f w1 e4 e3 tu uT pq q50 hl sc ph g => ?_⟩⟩
  · exact vX5_readCompared_5 hd hB 20 dd 0 ⟨fun z => absurd rfl z, fun _ => ho.1 F1 E1 u q pZ w1 b4 b1 b2 (R.1 dd t p u q f g)⟩
  · have e24 : E1 24 = E 24 := w1.e.1
    have e26 : E1 26 = E 26 := w1.e.2
    have pre1 : PreL lw T u q K F1 E1 := h.next w1 e4 e3 (by omega) (by omega) (by omega)
    have g1 := w1.2.2.2.2
    have hF1 := w1.2.1
    -- behind the sign
    have go : ∀ o, cO (E 24 u) = o → (o = 11 ∨ o = 12 ∨ o = 13) → PC l G e mX5_readSum (0, 0) [(2, 20), (0, dd)] (n, K, pUp F1 20 4 (u + 1), E1) (fun r μ => PW l G d mX5_readCompared bg 73 [(0, (2, 20)), (2, (0, o))] (r.toList ++ []) μ Q) := by
      intro o eo os
      have ul : u < T := by
        by_cases z : u = T
        · rw [z, hT] at eo
          have e0 : cO 256 = 0 := by decide
          omega
        · omega
      have w2 : FrL F E (pUp F1 20 4 (u + 1)) E1 := w1.at (Or.inr rfl)
      have al : pUp F1 20 4 (u + 1) 27 3 = F1 27 3 := by rw [pUp_a (by decide)]
      refine hp (0, 0) n K _ E1 _ T (u + 1) q (h.next w2 pUp_s (by rw [pUp_k (by decide)]; exact e3) (by omega) (by omega) (by omega)) ⟨fun F3 E3 t' p' g' w3 b4 b1 b2 gr => ?_, fun F3 E3 t' p' g' w3 b4 b3 b1 b2 b5 b6 b7 sg ph2 gr => ?_⟩
      · rw [e24, e26] at gr
        exact vX5_readCompared_73 hd hB 20 o 0 ⟨fun z => absurd rfl z, fun _ => ho.1 F3 E3 t' p' pZ (w2.trans w3) b4 (by omega) b2 (R.2.2.1 dd t p u q f t' p' g' g (by omega) gr)⟩
      · rw [e24, e26] at gr
        have hF3 := w3.2.1
        have g3 := w3.2.2.2.2
        refine vX5_readCompared_73 hd hB 20 o 1 ⟨fun _ => ⟨by rw [hK.k20], by rw [hF3.f20_1, hK.k27], ?_⟩, fun z => absurd z (by decide)⟩
        rw [hF3.f20_1]
        refine c_emit hK hF3 (by omega) (by omega) fun F5 E5 w5 c3 ca cb ck => vX5_readCompared_87 hd hB _ ?_
        rw [al] at sg
        have s1 : SegC (E5 29) (F 27 3) (F1 27 3) f (q - p) (nwL lw) := sc.congr fun j j0 j1 => by rw [w5.2.2.2.1 j (by omega), w3.2.2.2.1 j (by omega)]
        have s2 : SegC (E5 29) (F1 27 3) (F3 27 3) g' (p' - q) (nwL lw) := sg.congr fun j j0 j1 => w5.2.2.2.1 j (by omega)
        have s3 := segC_bin (o := o) l0 g1 (by omega) (by omega) (by omega) s1 s2 ph ph2 (by omega) ca
        rw [show q - p + (p' - q) = p' - p by omega, ← c3] at s3
        exact ho.2 F5 E5 t' p' (pBin o f g') ((w2.trans w3).trans w5) (by rw [ck 4]; exact b4) (by rw [ck 3]; exact b3) (by omega) b2 (by omega) b6 (by omega) s3 (Tst.cmp (by omega)) (by have r := R.2.2.2 dd t p u q f t' p' g' g (by omega) gr; rw [eo] at r; exact r)
    have chain : ∀ o, (cO (E 24 u) = 0 ∨ cO (E 24 u) = o) → (o = 11 ∨ o = 12 ∨ o = 13) → PC l G 0 mX5_skip (0, 0) [(2, 20), (0, 60)] (n, K, F1, E1) (fun r μ => PW l G d mX5_readCompared bg 47 [(0, (2, 20)), (1, (0, dd)), (2, (0, o))] (r.toList ++ []) μ Q) := by
      intro o eo os
      have yes : ∀ k, (k = 60 ∨ k = 62 ∨ k = 61) → E 24 u = k → PC l G e mX5_readSum (0, 0) [(2, 20), (0, dd)] (n, K, pUp F1 20 4 (u + 1), E1) (fun r μ => PW l G d mX5_readCompared bg 73 [(0, (2, 20)), (2, (0, o))] (r.toList ++ []) μ Q) := fun k hk ek => go o (by
        rcases eo with z | z
        · exfalso
          rw [ek] at z
          unfold cO at z
          rcases hk with e | e | e <;> subst e <;> exact absurd z (by decide)
        · exact z) os
      refine c_skip pre1 (by decide) (fun z => ?_) (fun z => ?_)
      · rw [e24] at z
        refine vX5_readCompared_47 hd hB 20 dd o 0 ⟨fun a => absurd rfl a, fun _ => ⟨by rw [hK.k20], c_skip pre1 (by decide) (fun y => ?_) (fun y => ?_)⟩⟩
        · rw [e24] at y
          refine vX5_readCompared_56 hd hB 20 dd o 0 ⟨fun a => absurd rfl a, fun _ => ⟨by rw [hK.k20], c_skip pre1 (by decide) (fun x => ?_) (fun x => ?_)⟩⟩
          · rw [e24] at x
            refine vX5_readCompared_65 hd hB 20 dd o 0 ⟨fun _ => ho.1 F1 E1 u q pZ w1 e4 (by omega) uT (R.2.1 dd t p u q f g (by unfold cO; rw [if_neg z, if_neg y, if_neg x])), fun a => absurd rfl a⟩
          · rw [e24] at x
            exact vX5_readCompared_65 hd hB 20 dd o 1 ⟨fun a => absurd a (by decide), fun _ => ⟨by rw [hK.k20], yes 61 (Or.inr (Or.inr rfl)) x⟩⟩
        · rw [e24] at y
          exact vX5_readCompared_56 hd hB 20 dd o 1 ⟨fun _ => ⟨by rw [hK.k20], yes 62 (Or.inr (Or.inl rfl)) y⟩, fun a => absurd a (by decide)⟩
      · rw [e24] at z
        exact vX5_readCompared_47 hd hB 20 dd o 1 ⟨fun _ => ⟨by rw [hK.k20], yes 60 (Or.inl rfl) z⟩, fun a => absurd a (by decide)⟩
    refine vX5_readCompared_5 hd hB 20 dd 1 ⟨fun _ => ?_, fun z => absurd z (by decide)⟩
    simp only [hF1.f20_0, hF1.f21_1, hK.k20, hK.k21, hK.k24, e4, e24]
    refine ⟨trivial, trivial, trivial, by omega, fun z => ⟨fun y => chain 13 ?_ (by decide), fun y => chain 12 ?_ (by decide)⟩, fun z => chain 11 ?_ (by decide)⟩
    · unfold cO
      rw [if_neg z, if_neg y]
      by_cases x : E 24 u = 61
      · rw [if_pos x]; exact Or.inr rfl
      · rw [if_neg x]; exact Or.inl rfl
    · unfold cO
      rw [if_neg z, if_pos y]; exact Or.inr rfl
    · unfold cO
      rw [if_pos z]; exact Or.inr rfl
