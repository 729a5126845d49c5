/-! TOKENS: what stands at a place of the tape, as the reference's next reads it -/
def skp (tp : Int → Int) (len : Int) : Nat → Int → Int
  | 0, p => p
  | k + 1, p => if p < len ∧ tp p = 32 then skp tp len k (p + 1) else p
def run (lo hi : Int) (tp : Int → Int) (len : Int) : Nat → Int → Int
  | 0, p => p
  | k + 1, p => if p < len ∧ lo ≤ tp p ∧ tp p < hi then run lo hi tp len k (p + 1) else p
/-- letters in base 32 -/
def en (a : Int → Int) : Nat → Int
  | 0 => 0
  | k + 1 => en a k * 32 + (a k - 96)
def dgN (tp : Int → Int) : Nat → Int → Int → Int
  | 0, _, x => x
  | k + 1, p, x => dgN tp k (p + 1) (if x ≤ 1000000 then x * 10 + (tp p - 48) else x)
def tkAt (tp : Int → Int) (len p : Int) : Int := skp tp len (len - p).toNat p
def tkSort (tp : Int → Int) (len f : Int) : Int := if f = len then 0 else if 97 ≤ tp f ∧ tp f < 123 then 1 else if 48 ≤ tp f ∧ tp f < 58 then 2 else 3
def tkTo (tp : Int → Int) (len f : Int) : Int := if tkSort tp len f = 0 then f else if tkSort tp len f = 1 then run 97 123 tp len (len - f).toNat f else if tkSort tp len f = 2 then run 48 58 tp len (len - f).toNat f else f + 1
def enW (tp : Int → Int) (f : Int) (k : Nat) : Int := if k ≤ 10 then en (fun i => tp (f + i)) k else -1
def tkW (tp : Int → Int) (len f : Int) : Int := if tkSort tp len f = 0 then 0 else if tkSort tp len f = 1 then enW tp f (tkTo tp len f - f).toNat else if tkSort tp len f = 2 then dgN tp (tkTo tp len f - f).toNat f 0 else tp f
theorem skp_rng {tp : Int → Int} {len : Int} (k : Nat) : ∀ p, p ≤ len → p ≤ skp tp len k p ∧ skp tp len k p ≤ len := by
  induction k with
  | zero => intro p h; unfold skp; omega
  | succ k ih =>
    intro p h
    unfold skp
    split
    · have := ih (p + 1) (by omega)
      omega
    · omega
theorem run_rng {lo hi : Int} {tp : Int → Int} {len : Int} (k : Nat) : ∀ p, p ≤ len → p ≤ run lo hi tp len k p ∧ run lo hi tp len k p ≤ len := by
  induction k with
  | zero => intro p h; unfold run; omega
  | succ k ih =>
    intro p h
    unfold run
    split
    · have := ih (p + 1) (by omega)
      omega
    · omega
theorem run_in {lo hi : Int} {tp : Int → Int} {len : Int} (k : Nat) : ∀ p q, p ≤ q → q < run lo hi tp len k p → lo ≤ tp q ∧ tp q < hi := by
  induction k with
  | zero => intro p q h1 h2; unfold run at h2; omega
  | succ k ih =>
    intro p q h1 h2
    unfold run at h2
    split at h2
    · rename_i z
      by_cases e : q = p
      · subst e; exact z.2
      · exact ih (p + 1) q (by omega) h2
    · omega
theorem en_rng {a : Int → Int} (k : Nat) (k10 : k ≤ 10) (h : ∀ i : Nat, i < k → 97 ≤ a i ∧ a i < 123) : 0 ≤ en a k ∧ en a k < 1125899906842624 := by
  have g : ∀ j : Nat, j ≤ k → 0 ≤ en a j ∧ en a j < 32 ^ j := by
    intro j
    induction j with
    | zero => intro _; unfold en; decide
    | succ j ih =>
      intro hj
      have q := ih (by omega)
      have b := h j (by omega)
      unfold en
      have e : (32 : Int) ^ (j + 1) = 32 ^ j * 32 := Int.pow_succ 32 j
      rw [e]
      omega
  have q := g k (Nat.le_refl k)
  have e : (32 : Int) ^ k ≤ 32 ^ 10 := by
    have : 32 ^ k ≤ 32 ^ 10 := Nat.pow_le_pow_right (by decide) k10
    have e1 : ((32 ^ k : Nat) : Int) = 32 ^ k := Int.natCast_pow 32 k
    have e2 : ((32 ^ 10 : Nat) : Int) = 32 ^ 10 := Int.natCast_pow 32 10
    rw [← e1, ← e2]
    exact Int.ofNat_le.mpr this
  have e3 : (32 : Int) ^ 10 = 1125899906842624 := by decide
  omega
/-- what next changes -/
def FrT (F F' : Int → Int → Int) : Prop := FS F' ∧ ∀ a k, ¬ (a = 66 ∧ 14 ≤ k ∧ k ≤ 17) → F' a k = F a k
theorem FrT.refl {F : Int → Int → Int} (h : FS F) : FrT F F := ⟨h, fun _ _ _ => rfl⟩
theorem FrT.trans {F F' F'' : Int → Int → Int} (h : FrT F F') (h' : FrT F' F'') : FrT F F'' := ⟨h'.1, fun a k q => (h'.2 a k q).trans (h.2 a k q)⟩
theorem FrT.up {F F' : Int → Int → Int} {k v : Int} (h : FrT F F') (hk : fTab.all (fun t => !(decide (t.1 = 66) && decide (t.2.1 = k))) = true) (h1 : 14 ≤ k ∧ k ≤ 17) : FrT F (pUp F' 66 k v) := ⟨h.1.up hk, fun a j q => by unfold pUp; rw [if_neg (by omega)]; exact h.2 a j q⟩
section R
variable {l : Launch} {G : pG} {bg : Nat × Nat} {n : Nat} {K : Int → Nat × Nat} {E : Int → Int → Int} {Q : Option pV → pM → Prop} {len : Int}
theorem r_next_243 (hK : KS K) (hlen : len ≤ 400) (hb : ∀ j, 0 ≤ j → j < len → 0 ≤ E 75 j ∧ E 75 j < 256) (k : Nat) : ∀ (p x : Int) (F : Int → Int → Int), FS F → F 66 13 = len → F 66 16 = 2 → F 66 15 = p → F 66 17 = x → 0 ≤ p → p ≤ len → len - p ≤ k → 0 ≤ x → x ≤ 100000000 →
    (∀ F', FrT F F' → F' 66 14 = F 66 14 → F' 66 16 = 2 → F' 66 15 = run 48 58 (E 75) len k p → F' 66 17 = dgN (E 75) (run 48 58 (E 75) len k p - p).toNat p x → Q none (n, K, F', E)) → PW l G 1 mX12_next bg 243 [(0, (2, 66))] [] (n, K, F, E) Q := by
  induction k with
  | zero =>
    intro p x F hF h13 h16 h15 h17 p0 p1 p2 x0 x1 hQ
    refine vX12_next_243 66 ?_
    simp only [h13, h16, h15]
    refine ⟨by rw [hK.k66], fun z => absurd trivial z, fun _ => ⟨fun _ => hQ F (FrT.refl hF) rfl h16 h15 ?_, fun z => absurd (by omega) z⟩⟩
    unfold run
    rw [show (p - p).toNat = 0 by omega]
    exact h17
  | succ k ih =>
    intro p x F hF h13 h16 h15 h17 p0 p1 p2 x0 x1 hQ
    have e0 : ¬ (p < len ∧ 48 ≤ E 75 p ∧ E 75 p < 58) → Q none (n, K, F, E) := fun z => by
      refine hQ F (FrT.refl hF) rfl h16 ?_ ?_
      · unfold run; rw [if_neg z]; exact h15
      · unfold run; rw [if_neg z, show (p - p).toNat = 0 by omega]; exact h17
    refine vX12_next_243 66 ?_
    simp only [h13, h16, h15, h17, hF.f66_12, hK.k75]
    refine ⟨by rw [hK.k66], fun z => absurd trivial z, fun _ => ⟨fun z => e0 (by omega), fun z => ⟨trivial, by omega, fun y => e0 (by omega), fun y => ?_⟩⟩⟩
    have st : ∀ F', FrT F F' → F' 66 14 = F 66 14 → F' 66 16 = 2 → F' 66 15 = p + 1 → F' 66 17 = (if x ≤ 1000000 then x * 10 + (E 75 p - 48) else x) → PW l G 1 mX12_next bg 243 [(0, (2, 66))] [] (n, K, F', E) Q := fun F' w w14 w16 w15 w17 => by
      refine ih (p + 1) _ F' w.1 (by rw [w.2 66 13 (by omega)]; exact h13) w16 w15 w17 (by omega) (by omega) (by omega) (by split <;> omega) (by split <;> omega) fun F2 w2 v14 v16 v15 v17 => ?_
      have rg := run_rng (lo := 48) (hi := 58) (tp := E 75) (len := len) k (p + 1) (by omega)
      have er : run 48 58 (E 75) len (k + 1) p = run 48 58 (E 75) len k (p + 1) := by
        show (if p < len ∧ 48 ≤ E 75 p ∧ E 75 p < 58 then _ else _) = _
        rw [if_pos ⟨by omega, y⟩]
      refine hQ F2 (w.trans w2) (by rw [v14, w14]) v16 (by rw [er]; exact v15) ?_
      rw [er, show (run 48 58 (E 75) len k (p + 1) - p).toNat = (run 48 58 (E 75) len k (p + 1) - (p + 1)).toNat + 1 by omega]
      exact v17
    have bq := hb p p0 (by omega)
    refine ⟨fun x2 => ?_, fun x2 F4 f4 => ⟨by omega, fun F5 f5 => st F5 ?_ ?_ ?_ ?_ ?_⟩⟩
    · rw [w64_id (by omega) (by omega)]
      refine ⟨by omega, fun a1 e1 => ⟨by omega, fun F2 f2 => ⟨by omega, fun F3 f3 => st F3 ?_ ?_ ?_ ?_ ?_⟩⟩⟩
      · rw [f3, f2]; exact ((FrT.refl hF).up (by decide +kernel) (by decide)).up (by decide +kernel) (by decide)
      · rw [f3, f2, pUp_k (by decide), pUp_k (by decide)]
      · rw [f3, f2, pUp_k (by decide), pUp_k (by decide)]; exact h16
      · rw [f3, pUp_s]
      · rw [f3, f2, pUp_k (by decide), pUp_s, if_pos x2]; omega
    · rw [f5, f4]; exact ((FrT.refl hF).up (by decide +kernel) (by decide)).up (by decide +kernel) (by decide)
    · rw [f5, f4, pUp_k (by decide), pUp_k (by decide)]
    · rw [f5, f4, pUp_k (by decide), pUp_k (by decide)]; exact h16
    · rw [f5, pUp_s]
    · rw [f5, f4, pUp_k (by decide), pUp_s, if_neg x2]
theorem r_next_149 {f : Int} (hK : KS K) (hlen : len ≤ 400) (f0 : 0 ≤ f) (k : Nat) : ∀ (p : Int) (F : Int → Int → Int), FS F → F 66 13 = len → F 66 16 = 1 → F 66 14 = f → F 66 15 = p → F 66 17 = enW (E 75) f (p - f).toNat → f ≤ p → p ≤ len → len - p ≤ k → (∀ q, f ≤ q → q < p → 97 ≤ E 75 q ∧ E 75 q < 123) →
    (∀ F', FrT F F' → F' 66 14 = f → F' 66 16 = 1 → F' 66 15 = run 97 123 (E 75) len k p → F' 66 17 = enW (E 75) f (run 97 123 (E 75) len k p - f).toNat → Q none (n, K, F', E)) → PW l G 1 mX12_next bg 149 [(0, (2, 66))] [] (n, K, F, E) Q := by
  have out : ∀ F, F 66 16 = 1 → Q none (n, K, F, E) → PW l G 1 mX12_next bg 243 [(0, (2, 66))] [] (n, K, F, E) Q := fun F h16 q => by
    refine vX12_next_243 66 ⟨by rw [hK.k66], fun _ => q, fun z => absurd z (by omega)⟩
  induction k with
  | zero =>
    intro p F hF h13 h16 h14 h15 h17 p0 p1 p2 hl hQ
    have q := out F h16 (hQ F (FrT.refl hF) h14 h16 (by unfold run; exact h15) (by unfold run; exact h17))
    refine vX12_next_149 66 ⟨by rw [hK.k66], fun z => absurd h16 z, fun _ => ⟨fun _ => q, fun z => absurd (by omega) z⟩⟩
  | succ k ih =>
    intro p F hF h13 h16 h14 h15 h17 p0 p1 p2 hl hQ
    have e0 : ¬ (p < len ∧ 97 ≤ E 75 p ∧ E 75 p < 123) → PW l G 1 mX12_next bg 243 [(0, (2, 66))] [] (n, K, F, E) Q := fun z => by
      refine out F h16 (hQ F (FrT.refl hF) h14 h16 ?_ ?_)
      · unfold run; rw [if_neg z]; exact h15
      · unfold run; rw [if_neg z]; exact h17
    have st : p < len → 97 ≤ E 75 p ∧ E 75 p < 123 → ∀ F', FrT F F' → F' 66 14 = f → F' 66 16 = 1 → F' 66 15 = p + 1 → F' 66 17 = enW (E 75) f (p + 1 - f).toNat → PW l G 1 mX12_next bg 149 [(0, (2, 66))] [] (n, K, F', E) Q := fun z y F' w w14 w16 w15 w17 => by
      refine ih (p + 1) F' w.1 (by rw [w.2 66 13 (by omega)]; exact h13) w16 w14 w15 w17 (by omega) (by omega) (by omega) (fun q q0 q1 => ?_) fun F2 w2 v14 v16 v15 v17 => ?_
      · by_cases e : q = p
        · subst e; exact y
        · exact hl q q0 (by omega)
      · have er : run 97 123 (E 75) len (k + 1) p = run 97 123 (E 75) len k (p + 1) := by
          show (if p < len ∧ 97 ≤ E 75 p ∧ E 75 p < 123 then _ else _) = _
          rw [if_pos ⟨by omega, y⟩]
        exact hQ F2 (w.trans w2) v14 v16 (by rw [er]; exact v15) (by rw [er]; exact v17)
    refine vX12_next_149 66 ?_
    simp only [h13, h16, h14, h15, h17, hF.f66_12, hK.k75]
    refine ⟨by rw [hK.k66], fun z => absurd trivial z, fun _ => ⟨fun z => e0 (by omega), fun z => ⟨trivial, by omega, fun y => e0 (by omega), fun y => ⟨by omega, fun x => ?_, fun x => ?_⟩⟩⟩⟩
    · intro F1 f1
      refine ⟨by omega, fun F2 f2 => st (by omega) y F2 ?_ ?_ ?_ ?_ ?_⟩
      · rw [f2, f1]; exact ((FrT.refl hF).up (by decide +kernel) (by decide)).up (by decide +kernel) (by decide)
      · rw [f2, f1, pUp_k (by decide), pUp_k (by decide)]; exact h14
      · rw [f2, f1, pUp_k (by decide), pUp_k (by decide)]; exact h16
      · rw [f2, pUp_s]
      · rw [f2, f1, pUp_k (by decide), pUp_s]
        unfold enW
        rw [if_neg (by omega)]
    · have ek : enW (E 75) f (p - f).toNat = en (fun i => E 75 (f + i)) (p - f).toNat := by unfold enW; rw [if_pos (by omega)]
      have rg := en_rng (a := fun i => E 75 (f + i)) (p - f).toNat (by omega) (fun i hi => hl (f + i) (by omega) (by omega))
      rw [ek, w64_id (by omega) (by omega)]
      refine ⟨by omega, fun a3 e3 => ⟨by omega, fun F4 f4 => ⟨by omega, fun F5 f5 => st (by omega) y F5 ?_ ?_ ?_ ?_ ?_⟩⟩⟩
      · rw [f5, f4]; exact ((FrT.refl hF).up (by decide +kernel) (by decide)).up (by decide +kernel) (by decide)
      · rw [f5, f4, pUp_k (by decide), pUp_k (by decide)]; exact h14
      · rw [f5, f4, pUp_k (by decide), pUp_k (by decide)]; exact h16
      · rw [f5, pUp_s]
      · rw [f5, f4, pUp_k (by decide), pUp_s, e3]
        unfold enW
        rw [if_pos (by omega), show (p + 1 - f).toNat = (p - f).toNat + 1 by omega]
        show _ = en (fun i => E 75 (f + i)) (p - f).toNat * 32 + (E 75 (f + ((p - f).toNat : Int)) - 96)
        rw [show f + ((p - f).toNat : Int) = p by omega]
        omega
/-- the token behind p -/
theorem r_next_8 (hK : KS K) (hlen : 0 ≤ len ∧ len ≤ 400) (hb : ∀ j, 0 ≤ j → j < len → 0 ≤ E 75 j ∧ E 75 j < 256) (k : Nat) : ∀ (p : Int) (F : Int → Int → Int), FS F → F 66 13 = len → F 66 14 = p → 0 ≤ p → p ≤ len → len - p ≤ k →
    (∀ F', FrT F F' → F' 66 14 = skp (E 75) len k p → F' 66 15 = tkTo (E 75) len (skp (E 75) len k p) → F' 66 16 = tkSort (E 75) len (skp (E 75) len k p) → F' 66 17 = tkW (E 75) len (skp (E 75) len k p) → Q none (n, K, F', E)) → PW l G 1 mX12_next bg 8 [(0, (2, 66))] [] (n, K, F, E) Q := by
  -- a token that begins at f
  have tok : ∀ (f : Int) (F : Int → Int → Int), FS F → F 66 13 = len → 0 ≤ f → f ≤ len → F 66 14 = f → F 66 15 = f → F 66 17 = 0 → (∀ F', FrT F F' → F' 66 14 = f → F' 66 15 = tkTo (E 75) len f → F' 66 16 = tkSort (E 75) len f → F' 66 17 = tkW (E 75) len f → Q none (n, K, F', E)) → ∀ F2, F2 = pUp F 66 16 (tkSort (E 75) len f) → ((tkSort (E 75) len f ≠ 3 → PW l G 1 mX12_next bg 149 [(0, (2, 66))] [] (n, K, F2, E) Q) ∧ (tkSort (E 75) len f = 3 → f < len → ∀ F4, F4 = pUp F2 66 17 (E 75 f) → ∀ F5, F5 = pUp F4 66 15 (f + 1) → PW l G 1 mX12_next bg 149 [(0, (2, 66))] [] (n, K, F5, E) Q)) := by
    intro f F hF h13 f0 f1 h14 h15 h17 hQ F2 f2
    have w2 : FrT F F2 := by rw [f2]; exact (FrT.refl hF).up (by decide +kernel) (by decide)
    have v16 : F2 66 16 = tkSort (E 75) len f := by rw [f2, pUp_s]
    have v14 : F2 66 14 = f := by rw [f2, pUp_k (by decide)]; exact h14
    have v15 : F2 66 15 = f := by rw [f2, pUp_k (by decide)]; exact h15
    have v17 : F2 66 17 = 0 := by rw [f2, pUp_k (by decide)]; exact h17
    have v13 : F2 66 13 = len := by rw [f2, pUp_k (by decide)]; exact h13
    refine ⟨fun n3 => ?_, fun e3 fl F4 f4 F5 f5 => ?_⟩
    · by_cases s1 : tkSort (E 75) len f = 1
      · refine r_next_149 (f := f) hK hlen.2 f0 (len - f).toNat f F2 w2.1 v13 (v16.trans s1) v14 v15 (by rw [v17]; unfold enW; rw [show (f - f).toNat = 0 by omega]; rfl) (by omega) f1 (by omega) (fun q q0 q1 => absurd q1 (by omega)) fun F' w' a14 a16 a15 a17 => hQ F' (w2.trans w') a14 ?_ (a16.trans s1.symm) ?_
        · unfold tkTo; rw [if_neg (by omega), if_pos s1]; exact a15
        · unfold tkW; rw [if_neg (by omega), if_pos s1]
          unfold tkTo; rw [if_neg (by omega), if_pos s1]; exact a17
      · refine vX12_next_149 66 ⟨by rw [hK.k66], fun _ => ?_, fun z => absurd (v16.symm.trans z) s1⟩
        by_cases s2 : tkSort (E 75) len f = 2
        · refine r_next_243 hK hlen.2 hb (len - f).toNat f 0 F2 w2.1 v13 (v16.trans s2) v15 v17 f0 f1 (by omega) (by decide) (by decide) fun F' w' a14 a16 a15 a17 => hQ F' (w2.trans w') (a14.trans v14) ?_ (a16.trans s2.symm) ?_
          · unfold tkTo; rw [if_neg (by omega), if_neg s1, if_pos s2]; exact a15
          · unfold tkW; rw [if_neg (by omega), if_neg s1, if_pos s2]
            unfold tkTo; rw [if_neg (by omega), if_neg s1, if_pos s2]; exact a17
        · have s0 : tkSort (E 75) len f = 0 := by
            unfold tkSort at *
            split at n3 <;> rename_i q
            · rw [if_pos q]
            · rw [if_neg q] at *
              split at n3 <;> rename_i q2
              · rw [if_pos q2] at s1; exact absurd rfl s1
              · rw [if_neg q2] at *
                split at n3 <;> rename_i q4
                · rw [if_pos q4] at s2; exact absurd rfl s2
                · exact absurd rfl n3
          refine vX12_next_243 66 ⟨by rw [hK.k66], fun _ => hQ F2 w2 v14 ?_ v16 ?_, fun z => absurd (v16.symm.trans z) s2⟩
          · unfold tkTo; rw [if_pos s0]; exact v15
          · unfold tkW; rw [if_pos s0]; exact v17
    · have w5 : FrT F F5 := by rw [f5, f4]; exact (w2.up (by decide +kernel) (by decide)).up (by decide +kernel) (by decide)
      have u16 : F5 66 16 = tkSort (E 75) len f := by rw [f5, f4, pUp_k (by decide), pUp_k (by decide)]; exact v16
      have q := hQ F5 w5 (by rw [f5, f4, pUp_k (by decide), pUp_k (by decide)]; exact v14) (by unfold tkTo; rw [if_neg (by omega), if_neg (by omega), if_neg (by omega), f5, pUp_s]) u16 (by unfold tkW; rw [if_neg (by omega), if_neg (by omega), if_neg (by omega), f5, f4, pUp_k (by decide), pUp_s])
      refine vX12_next_149 66 ⟨by rw [hK.k66], fun _ => ?_, fun z => absurd (u16.symm.trans z) (by omega)⟩
      exact vX12_next_243 66 ⟨by rw [hK.k66], fun _ => q, fun z => absurd (u16.symm.trans z) (by omega)⟩
  induction k with
  | zero =>
    intro p F hF h13 h14 p0 p1 p2 hQ
    obtain rfl : p = len := by omega
    have ts : tkSort (E 75) p p = 0 := by unfold tkSort; rw [if_pos rfl]
    refine vX12_next_8 66 ?_
    simp only [h13, h14]
    refine ⟨by rw [hK.k66], fun _ F1 f1 F2 f2 => ⟨fun z => absurd trivial z, fun _ F8 f8 => ?_⟩, fun z => absurd (Int.le_refl p) z⟩
    have w2 : FrT F F2 := by rw [f2, f1]; exact ((FrT.refl hF).up (by decide +kernel) (by decide)).up (by decide +kernel) (by decide)
    refine (tok p F2 w2.1 (by rw [w2.2 66 13 (by omega)]; exact h13) p0 (Int.le_refl p) (by rw [f2, f1, pUp_k (by decide), pUp_k (by decide)]; exact h14) (by rw [f2, f1, pUp_k (by decide), pUp_s]) (by rw [f2, pUp_s]) (fun F' w' => hQ F' (w2.trans w')) F8 (by rw [f8, ts])).1 (by omega)
  | succ k ih =>
    intro p F hF h13 h14 p0 p1 p2 hQ
    refine vX12_next_8 66 ?_
    simp only [h13, h14, hF.f66_12, hK.k75]
    have here : ¬ (p < len ∧ E 75 p = 32) → ∀ F1, F1 = pUp F 66 15 p → ∀ F2, F2 = pUp F1 66 17 0 → FrT F F2 ∧ ∀ F3, F3 = pUp F2 66 16 (tkSort (E 75) len p) → ((tkSort (E 75) len p ≠ 3 → PW l G 1 mX12_next bg 149 [(0, (2, 66))] [] (n, K, F3, E) Q) ∧ (tkSort (E 75) len p = 3 → p < len → ∀ F4, F4 = pUp F3 66 17 (E 75 p) → ∀ F5, F5 = pUp F4 66 15 (p + 1) → PW l G 1 mX12_next bg 149 [(0, (2, 66))] [] (n, K, F5, E) Q)) := fun z F1 f1 F2 f2 => by
      have w2 : FrT F F2 := by rw [f2, f1]; exact ((FrT.refl hF).up (by decide +kernel) (by decide)).up (by decide +kernel) (by decide)
      have es : skp (E 75) len (k + 1) p = p := by
        show (if p < len ∧ E 75 p = 32 then _ else _) = _
        rw [if_neg z]
      rw [es] at hQ
      exact ⟨w2, tok p F2 w2.1 (by rw [w2.2 66 13 (by omega)]; exact h13) p0 p1 (by rw [f2, f1, pUp_k (by decide), pUp_k (by decide)]; exact h14) (by rw [f2, f1, pUp_k (by decide), pUp_s]) (by rw [f2, pUp_s]) (fun F' w' => hQ F' (w2.trans w'))⟩
    refine ⟨by rw [hK.k66], fun z F1 f1 F2 f2 => ⟨fun y => absurd (by omega) y, fun y F8 f8 => ?_⟩, fun z => ⟨trivial, by omega, fun y F9 f9 F10 f10 => ⟨fun x => ⟨fun u => ⟨fun v F11 f11 F12 f12 => ⟨by omega, fun F13 f13 => ?_⟩, fun v F14 f14 => ?_⟩, fun u F15 f15 => ?_⟩, fun x F16 f16 => absurd x (by omega)⟩, fun y => ⟨by omega, fun F17 f17 => ?_⟩⟩⟩
    · have ts : tkSort (E 75) len p = 0 := by unfold tkSort; rw [if_pos y]
      exact ((here (by omega) F1 f1 F2 f2).2 F8 (by rw [f8, ts])).1 (by omega)
    · have ts : tkSort (E 75) len p = 3 := by unfold tkSort; rw [if_neg x, if_neg u, if_neg v]
      exact ((here (fun q => y q.2) F9 f9 F10 f10).2 F11 (by rw [f11, ts])).2 ts (by omega) F12 f12 F13 f13
    · have ts : tkSort (E 75) len p = 2 := by unfold tkSort; rw [if_neg x, if_neg u, if_pos v]
      exact ((here (fun q => y q.2) F9 f9 F10 f10).2 F14 (by rw [f14, ts])).1 (by omega)
    · have ts : tkSort (E 75) len p = 1 := by unfold tkSort; rw [if_neg x, if_pos u]
      exact ((here (fun q => y q.2) F9 f9 F10 f10).2 F15 (by rw [f15, ts])).1 (by omega)
    · have w : FrT F F17 := by rw [f17]; exact (FrT.refl hF).up (by decide +kernel) (by decide)
      have es : skp (E 75) len (k + 1) p = skp (E 75) len k (p + 1) := by
        show (if p < len ∧ E 75 p = 32 then _ else _) = _
        rw [if_pos ⟨by omega, y⟩]
      rw [es] at hQ
      exact ih (p + 1) F17 w.1 (by rw [w.2 66 13 (by omega)]; exact h13) (by rw [f17, pUp_s]) (by omega) (by omega) (by omega) fun F' w' => hQ F' (w.trans w')
theorem r_next {F : Int → Int → Int} {p : Int} (hK : KS K) (hF : FS F) (hlen : 0 ≤ len ∧ len ≤ 400) (hb : ∀ j, 0 ≤ j → j < len → 0 ≤ E 75 j ∧ E 75 j < 256) (h13 : F 66 13 = len) (h15 : F 66 15 = p) (p0 : 0 ≤ p) (p1 : p ≤ len)
    (hQ : ∀ F', FrT F F' → F' 66 14 = tkAt (E 75) len p → F' 66 15 = tkTo (E 75) len (tkAt (E 75) len p) → F' 66 16 = tkSort (E 75) len (tkAt (E 75) len p) → F' 66 17 = tkW (E 75) len (tkAt (E 75) len p) → Q none (n, K, F', E)) : PC l G 1 mX12_next bg [(2, 66)] (n, K, F, E) Q := by
  refine vX12_next_0 66 ⟨by rw [hK.k66], fun F1 f1 => ?_⟩
  have w : FrT F F1 := by rw [f1]; exact (FrT.refl hF).up (by decide +kernel) (by decide)
  exact r_next_8 hK hlen hb (len - p).toNat p F1 w.1 (by rw [w.2 66 13 (by omega)]; exact h13) (by rw [f1, pUp_s]; exact h15) p0 p1 (by omega) fun F' w' => hQ F' (w.trans w')
end R
