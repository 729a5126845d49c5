/-! TOKENS in the class: all of them -/
def tkKind (tp : Int → Int) (len f : Int) : Int := if tkSort tp len f = 0 then 256 else if tkSort tp len f = 1 then kwW (tkW tp len f) else if tkSort tp len f = 2 then 257 else tp f
def tkNum (tp : Int → Int) (len f : Int) : Int := if tkSort tp len f = 2 then min 1001 (tkW tp len f) else 0
section C
variable {l : Launch} {G : pG} {bg : Nat × Nat} {n : Nat} {K : Int → Nat × Nat} {F : Int → Int → Int} {Q : Option pV → pM → Prop} {len i : Int} {tp : Int → Int}
theorem c_readOne_32 (hK : KS K) (hF : FS F) (hlen : len ≤ 400) (h22 : F 22 1 = len) (i0 : 0 ≤ i) (i1 : i ≤ 400) (k : Nat) : ∀ (p x y : Int) (E : Int → Int → Int), (∀ j, 0 ≤ j → j < len → bAnd (E 23 j) 255 = tp j) → E 26 i = x → x = min 1001 y → 0 ≤ y → 0 ≤ p → p ≤ len → len - p ≤ k →
    (∀ E', (∀ r, r ≠ 26 → E' r = E r) → (∀ j, j ≠ i → E' 26 j = E 26 j) → E' 26 i = min 1001 (dgN tp (run 48 58 tp len k p - p).toNat p y) → Q (some (0, run 48 58 tp len k p)) (n, K, F, E')) → PW l G 7 mX10_readOne bg 32 [(0, (2, 21)), (1, (0, i)), (3, (0, p))] [] (n, K, F, E) Q := by
  induction k with
  | zero =>
    intro p x y E hj hx hy y0 p0 p1 p2 hQ
    have q := hQ E (fun _ _ => rfl) (fun _ _ => rfl) (by unfold run; rw [show (p - p).toNat = 0 by omega, hx]; exact hy)
    unfold run at q
    refine vX10_readOne_32 21 i p ?_
    simp only [hF.f21_0, hK.k21, hK.k22, h22]
    exact ⟨trivial, trivial, fun _ => q, fun z => absurd (by omega) z⟩
  | succ k ih =>
    intro p x y E hj hx hy y0 p0 p1 p2 hQ
    have e0 : ¬ (p < len ∧ 48 ≤ tp p ∧ tp p < 58) → Q (some (0, p)) (n, K, F, E) := fun z => by
      have er : run 48 58 tp len (k + 1) p = p := by
        show (if p < len ∧ 48 ≤ tp p ∧ tp p < 58 then _ else _) = _
        rw [if_neg z]
      have q := hQ E (fun _ _ => rfl) (fun _ _ => rfl) (by rw [er, show (p - p).toNat = 0 by omega, hx]; exact hy)
      rw [er] at q
      exact q
    refine vX10_readOne_32 21 i p ?_
    simp only [hF.f21_0, hF.f21_3, hF.f22_0, hK.k21, hK.k22, hK.k23, hK.k26, h22, hx]
    refine ⟨trivial, trivial, fun z => e0 (by omega), fun z => ?_⟩
    rw [hj p p0 (by omega)]
    refine ⟨by decide, trivial, by omega, fun y => e0 (by omega), fun w => ⟨trivial, by omega, by omega, by omega, fun a1 ea => ⟨by omega, by decide, fun E2 e2 => ⟨by omega, ?_⟩⟩⟩⟩
    have er : run 48 58 tp len (k + 1) p = run 48 58 tp len k (p + 1) := by
      show (if p < len ∧ 48 ≤ tp p ∧ tp p < 58 then _ else _) = _
      rw [if_pos ⟨by omega, w⟩]
    have rg := run_rng (lo := 48) (hi := 58) (tp := tp) (len := len) k (p + 1) (by omega)
    refine ih (p + 1) (min 1001 (a1 - 48)) (if y ≤ 1000000 then y * 10 + (tp p - 48) else y) E2 (fun j j0 j1 => by rw [e2, pUp_an (by decide)]; exact hj j j0 j1) (by rw [e2, pUp_s]) (by split <;> omega) (by split <;> omega) (by omega) (by omega) (by omega) fun E' n' o' v' => ?_
    have q := hQ E' (fun r hr => by rw [n' r hr, e2, pUp_an hr]) (fun j hj' => by rw [o' j hj', e2, pUp_k hj']) (by
      rw [er, show (run 48 58 tp len k (p + 1) - p).toNat = (run 48 58 tp len k (p + 1) - (p + 1)).toNat + 1 by omega]
      exact v')
    rw [er] at q
    exact q
theorem c_readOne {f : Int} {E : Int → Int → Int} (hK : KS K) (hF : FS F) (hlen : len ≤ 400) (h22 : F 22 1 = len) (hj : ∀ j, 0 ≤ j → j < len → bAnd (E 23 j) 255 = tp j) (i0 : 0 ≤ i) (i1 : i ≤ 400) (f0 : 0 ≤ f) (f1 : f < len)
    (hQ : ∀ E', (∀ r, r ≠ 24 → r ≠ 26 → E' r = E r) → (∀ j, j ≠ i → E' 24 j = E 24 j ∧ E' 26 j = E 26 j) → E' 24 i = tkKind tp len f → E' 26 i = tkNum tp len f → Q (some (0, tkTo tp len f)) (n, K, F, E')) : PC l G 7 mX10_readOne bg [(2, 21), (0, i), (0, f)] (n, K, F, E) Q := by
  refine vX10_readOne_0 21 i f ?_
  simp only [hF.f21_0, hF.f21_1, hF.f21_3, hF.f22_0, hK.k21, hK.k22, hK.k23, hK.k24, hK.k26]
  rw [hj f f0 f1]
  refine ⟨trivial, by decide, trivial, by omega, fun E1 e1 => ⟨trivial, by decide, trivial, by omega, fun z => ?_, fun z => ⟨by decide, trivial, by omega, fun E2 e2 => ?_⟩⟩⟩
  · -- a word or a sign
    have j1 : ∀ j, 0 ≤ j → j < len → bAnd (E1 23 j) 255 = tp j := fun j a b => by rw [e1, pUp_an (by decide)]; exact hj j a b
    have lp : ∀ (k : Nat) (p : Int), f ≤ p → p ≤ len → len - p ≤ k → (∀ q, f ≤ q → q < p → 97 ≤ tp q ∧ tp q < 123) → run 97 123 tp len (len - f).toNat f = run 97 123 tp len k p → PW l G 7 mX10_readOne bg 98 [(0, (2, 21)), (1, (0, i)), (2, (0, f)), (3, (0, p))] [] (n, K, F, E1) Q := by
      have fin : ∀ p, f ≤ p → p ≤ len → (∀ q, f ≤ q → q < p → 97 ≤ tp q ∧ tp q < 123) → run 97 123 tp len (len - f).toNat f = p → (p < len → ¬ (97 ≤ tp p ∧ tp p < 123)) → (¬ p = f → PC l G 6 mX10_wordAt (0, 0) [(2, 21), (0, f), (0, p)] (n, K, F, E1) (fun r μ => PW l G 7 mX10_readOne bg 156 [(2, (0, f)), (3, (0, p))] (r.toList ++ [(0, i), (2, 24)]) μ Q)) ∧ (p = f → ∀ E2, E2 = pUp E1 24 i (tp f) → Q (some (0, max (f + 1) p)) (n, K, F, E2)) := by
        intro p p0 p1 hl er hn
        refine ⟨fun y => ?_, fun y E2 e2 => ?_⟩
        · have s1 : tkSort tp len f = 1 := by
            unfold tkSort
            rw [if_neg (by omega), if_pos (hl f (Int.le_refl f) (by omega))]
          have to : tkTo tp len f = p := by unfold tkTo; rw [if_neg (by omega), if_pos s1]; exact er
          refine c_wordAt (len := len) (tp := tp) hK hF hlen j1 f0 p1 (by omega) hl ?_
          refine vX10_readOne_156 f p _ i 24 ?_
          rw [hK.k24]
          refine ⟨by decide, rfl, by omega, fun E3 e3 => ⟨by omega, ?_⟩⟩
          rw [show max (f + 1) p = tkTo tp len f by rw [to]; omega]
          refine hQ E3 (fun r h1 h2 => by rw [e3, pUp_an h1, e1, pUp_an h2]) (fun j h => ⟨by rw [e3, pUp_k h, e1, pUp_an (by decide)], by rw [e3, pUp_an (by decide), e1, pUp_k h]⟩) ?_ ?_
          · rw [e3, pUp_s]
            unfold tkKind tkW
            rw [if_neg (by omega), if_pos s1, if_neg (by omega), if_pos s1, to]
          · rw [e3, pUp_an (by decide), e1, pUp_s]
            unfold tkNum
            rw [if_neg (by omega)]
        · have nl := hn (by omega)
          rw [y] at nl
          have s3 : tkSort tp len f = 3 := by unfold tkSort; rw [if_neg (by omega), if_neg nl, if_neg z]
          have to : tkTo tp len f = f + 1 := by unfold tkTo; rw [if_neg (by omega), if_neg (by omega), if_neg (by omega)]
          rw [show max (f + 1) p = tkTo tp len f by rw [to]; omega]
          refine hQ E2 (fun r h1 h2 => by rw [e2, pUp_an h1, e1, pUp_an h2]) (fun j h => ⟨by rw [e2, pUp_k h, e1, pUp_an (by decide)], by rw [e2, pUp_an (by decide), e1, pUp_k h]⟩) ?_ ?_
          · rw [e2, pUp_s]
            unfold tkKind
            rw [if_neg (by omega), if_neg (by omega), if_neg (by omega)]
          · rw [e2, pUp_an (by decide), e1, pUp_s]
            unfold tkNum
            rw [if_neg (by omega)]
      intro k
      induction k with
      | zero =>
        intro p p0 p1 p2 hl er
        have er : run 97 123 tp len (len - f).toNat f = p := er
        obtain ⟨w1, w2⟩ := fin p p0 p1 hl er (fun h => absurd h (by omega))
        refine vX10_readOne_98 21 i f p ?_
        simp only [hF.f21_0, hF.f21_1, hF.f22_0, hK.k21, hK.k22, hK.k23, hK.k24, h22]
        rw [j1 f f0 f1]
        exact ⟨trivial, trivial, fun _ => ⟨w1, fun y => ⟨by decide, trivial, by omega, by decide, trivial, by omega, fun E2 e2 => ⟨by omega, w2 y E2 e2⟩⟩⟩, fun y => absurd (by omega) y⟩
      | succ k ih =>
        intro p p0 p1 p2 hl er
        have here : ¬ (p < len ∧ 97 ≤ tp p ∧ tp p < 123) → (¬ p = f → PC l G 6 mX10_wordAt (0, 0) [(2, 21), (0, f), (0, p)] (n, K, F, E1) (fun r μ => PW l G 7 mX10_readOne bg 156 [(2, (0, f)), (3, (0, p))] (r.toList ++ [(0, i), (2, 24)]) μ Q)) ∧ (p = f → ∀ E2, E2 = pUp E1 24 i (tp f) → Q (some (0, max (f + 1) p)) (n, K, F, E2)) := fun w => by
          refine fin p p0 p1 hl ?_ (fun h q => w ⟨h, q⟩)
          rw [er]
          show (if p < len ∧ 97 ≤ tp p ∧ tp p < 123 then _ else _) = _
          rw [if_neg w]
        refine vX10_readOne_98 21 i f p ?_
        simp only [hF.f21_0, hF.f21_1, hF.f22_0, hK.k21, hK.k22, hK.k23, hK.k24, h22]
        rw [j1 f f0 f1]
        refine ⟨trivial, trivial, fun y => ?_, fun y => ?_⟩
        · obtain ⟨w1, w2⟩ := here (by omega)
          exact ⟨w1, fun y => ⟨by decide, trivial, by omega, by decide, trivial, by omega, fun E2 e2 => ⟨by omega, w2 y E2 e2⟩⟩⟩
        · rw [j1 p (by omega) (by omega)]
          refine ⟨by decide, trivial, by omega, fun x => ?_, fun x => ⟨by omega, ih (p + 1) (by omega) (by omega) (by omega) (fun q q0 q1 => ?_) ?_⟩⟩
          · obtain ⟨w1, w2⟩ := here (fun q => x q.2)
            exact ⟨w1, fun y => ⟨by omega, by decide, trivial, by omega, fun E2 e2 => ⟨by omega, w2 y E2 e2⟩⟩⟩
          · by_cases e : q = p
            · subst e; exact x
            · exact hl q q0 (by omega)
          · rw [er]
            show (if p < len ∧ 97 ≤ tp p ∧ tp p < 123 then _ else _) = _
            rw [if_pos ⟨by omega, x⟩]
    exact lp (len - f).toNat f (Int.le_refl f) (by omega) (by omega) (fun q q0 q1 => absurd q1 (by omega)) rfl
  · -- digits
    have s2 : tkSort tp len f = 2 := by unfold tkSort; rw [if_neg (by omega), if_neg (by omega), if_pos z]
    have to : tkTo tp len f = run 48 58 tp len (len - f).toNat f := by unfold tkTo; rw [if_neg (by omega), if_neg (by omega), if_pos s2]
    refine c_readOne_32 (tp := tp) hK hF hlen h22 i0 i1 (len - f).toNat f 0 0 E2 (fun j a b => by rw [e2, pUp_an (by decide), e1, pUp_an (by decide)]; exact hj j a b) (by rw [e2, pUp_an (by decide), e1, pUp_s]) (by decide) (by decide) f0 (by omega) (by omega) fun E' n' o' v' => ?_
    rw [← to] at v' ⊢
    refine hQ E' (fun r h1 h2 => by rw [n' r h2, e2, pUp_an h1, e1, pUp_an h2]) (fun j h => ⟨by rw [n' 24 (by decide), e2, pUp_k h, e1, pUp_an (by decide)], by rw [o' j h, e2, pUp_an (by decide), e1, pUp_k h]⟩) ?_ ?_
    · rw [n' 24 (by decide), e2, pUp_s]
      unfold tkKind
      rw [if_neg (by omega), if_neg (by omega), if_pos s2]
    · rw [v']
      unfold tkNum tkW
      rw [if_pos s2, if_neg (by omega), if_neg (by omega), if_pos s2]
end C
