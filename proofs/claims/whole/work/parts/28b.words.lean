/-! TOKENS in the class: words -/
def wB : List (Int × Int) := [(0, 7), (8, 10), (11, 19), (20, 21), (22, 23), (24, 28), (29, 34), (35, 39), (40, 45), (46, 50), (51, 57), (58, 65), (66, 75), (76, 80), (81, 86), (87, 91), (92, 96), (97, 103), (104, 110), (111, 116), (117, 121), (122, 124), (125, 130), (131, 133), (134, 136), (137, 140), (141, 144)]
def wE (b : Int × Int) : Int := en (fun i => pCh (b.1 + i)) (b.2 - b.1).toNat
def wKs : List Int := [21780338323, 496, 624248366574, 1, 2, 632645, 13683059, 441828, 20579760, 146885, 404362868, 19515749011, 17048404639315, 267652, 3657363, 67155, 114085, 659105125, 781652471, 9900216, 763528, 655, 21279923, 294, 498, 1476, 14836]
theorem wKs_eq : wB.map wE = wKs := by decide +kernel
def kwF (w : Int) : List (Int × Int) → Int → Int
  | [], _ => 258
  | b :: R, c => if w = wE b then c else kwF w R (c + 1)
/-- the class's kind of a word -/
def kwW (w : Int) : Int := kwF w wB 259
def chn : Int → List (Int × Int) → Bool
  | b, [] => decide (b = 145)
  | b, p :: R => decide (p.1 = b) && decide (0 ≤ b ∧ b < p.2 ∧ p.2 ≤ 144 ∧ p.2 - b ≤ 10) && (List.range (p.2 - b).toNat).all (fun i => decide (97 ≤ pCh (b + i) ∧ pCh (b + i) < 123)) && decide (p.2 = 144 ∨ pCh p.2 = 32) && chn (p.2 + 1) R
theorem chn_wB : chn 0 wB = true := by decide +kernel
theorem en_congr {a b : Int → Int} (k : Nat) (h : ∀ i : Nat, i < k → a i = b i) : en a k = en b k := by
  induction k with
  | zero => rfl
  | succ k ih =>
    unfold en
    rw [ih (fun i hi => h i (by omega)), h k (by omega)]
theorem en_pos {a : Int → Int} (k : Nat) (h : ∀ i : Nat, i < k → 97 ≤ a i ∧ a i < 123) : 0 ≤ en a k ∧ (0 < k → 0 < en a k) := by
  induction k with
  | zero => exact ⟨Int.le_refl 0, fun z => absurd z (by decide)⟩
  | succ k ih =>
    have q := ih (fun i hi => h i (by omega))
    have b := h k (by omega)
    unfold en
    omega
theorem en_inj {a b : Int → Int} (m : Nat) : ∀ n : Nat, (∀ i : Nat, i < m → 97 ≤ a i ∧ a i < 123) → (∀ i : Nat, i < n → 97 ≤ b i ∧ b i < 123) → en a m = en b n → m = n ∧ ∀ i : Nat, i < m → a i = b i := by
  induction m with
  | zero =>
    intro n ha hb e
    have q := en_pos n hb
    have e0 : en a 0 = 0 := rfl
    rw [e0] at e
    by_cases z : 0 < n
    · have := q.2 z; omega
    · exact ⟨by omega, fun i hi => absurd hi (by omega)⟩
  | succ m ih =>
    intro n ha hb e
    have pa := en_pos (m + 1) ha
    match n, hb, e with
    | 0, hb, e =>
      have e0 : en b 0 = 0 := rfl
      rw [e0] at e
      have := pa.2 (by omega)
      omega
    | n + 1, hb, e =>
      have da := ha m (by omega)
      have db := hb n (by omega)
      unfold en at e
      have e1 : en a m = en b n := by omega
      have e2 : a m = b n := by omega
      obtain ⟨q1, q2⟩ := ih n (fun i hi => ha i (by omega)) (fun i hi => hb i (by omega)) e1
      subst q1
      refine ⟨rfl, fun i hi => ?_⟩
      by_cases z : i = m
      · rw [z]; exact e2
      · exact q2 i (by omega)
section C
variable {l : Launch} {G : pG} {bg : Nat × Nat} {n : Nat} {K : Int → Nat × Nat} {F E : Int → Int → Int} {Q : Option pV → pM → Prop} {len f e : Int} {tp : Int → Int}
theorem c_isSpelt {b : Int} (hK : KS K) (hF : FS F) (h400 : len ≤ 400) (hj : ∀ j, 0 ≤ j → j < len → bAnd (E 23 j) 255 = tp j) (f0 : 0 ≤ f) (e1 : e ≤ len) (fe : f ≤ e) (b0 : 0 ≤ b) (b1 : b + (e - f) ≤ 144)
    (hQ : ∀ v, ((v = 1 ∧ ∀ i, f ≤ i → i < e → tp i = pCh (b + i - f)) ∨ (v = 0 ∧ ¬ ∀ i, f ≤ i → i < e → tp i = pCh (b + i - f))) → Q (some (0, v)) (n, K, F, E)) : PC l G 5 mX10_isSpelt bg [(2, 21), (0, f), (0, e), (0, b)] (n, K, F, E) Q := by
  have lp : ∀ (w : Nat) (i : Int), i + w = e → f ≤ i → (∀ j, f ≤ j → j < i → tp j = pCh (b + j - f)) → PW l G 5 mX10_isSpelt bg 3 [(0, (2, 21)), (1, (0, f)), (2, (0, e)), (3, (0, b)), (4, (0, i))] [] (n, K, F, E) Q := by
    intro w
    induction w with
    | zero =>
      intro i ei i0 hi
      exact vX10_isSpelt_3 21 f e b i ⟨fun _ => hQ 1 (Or.inl ⟨rfl, fun j j0 j1 => hi j j0 (by omega)⟩), fun z => absurd (by omega) z⟩
    | succ w ih =>
      intro i ei i0 hi
      refine vX10_isSpelt_3 21 f e b i ?_
      simp only [hF.f21_0, hF.f22_0, hK.k21, hK.k22, hK.k23, hj i (by omega) (by omega)]
      refine ⟨fun z => absurd z (by omega), fun _ => ⟨trivial, trivial, by decide, trivial, by omega, by omega, by omega, by omega, fun y => ⟨by omega, ih (i + 1) (by omega) (by omega) fun j j0 j1 => ?_⟩, fun y => hQ 0 (Or.inr ⟨rfl, fun q => y (q i i0 (by omega))⟩)⟩⟩
      by_cases z : j = i
      · subst z; exact y
      · exact hi j j0 (by omega)
  exact vX10_isSpelt_0 21 f e b (lp (e - f).toNat f (by omega) (Int.le_refl f) (fun j j0 j1 => absurd j1 (by omega)))
theorem c_wordAt_10 (hK : KS K) (hF : FS F) (h400 : len ≤ 400) (hj : ∀ j, 0 ≤ j → j < len → bAnd (E 23 j) 255 = tp j) (f0 : 0 ≤ f) (e1 : e ≤ len) (fe : f < e) (hl : ∀ q, f ≤ q → q < e → 97 ≤ tp q ∧ tp q < 123) (R : List (Int × Int)) : ∀ (c b : Int), chn b R = true → 0 ≤ c → c + R.length ≤ 300 → Q (some (0, kwF (enW tp f (e - f).toNat) R c)) (n, K, F, E) → PW l G 6 mX10_wordAt bg 10 [(0, (2, 21)), (1, (0, f)), (2, (0, e)), (3, (0, c)), (4, (0, b)), (5, (0, b))] [] (n, K, F, E) Q := by
  induction R with
  | nil =>
    intro c b hc c0 c1 q
    have hb : b = 145 := of_decide_eq_true hc
    exact vX10_wordAt_10 21 f e c b b ⟨fun _ => q, fun z => absurd (by omega) z⟩
  | cons p R ih =>
    intro c b hc c0 c1 q
    unfold chn at hc
    simp only [Bool.and_eq_true] at hc
    obtain ⟨⟨⟨⟨h1, h2⟩, h3⟩, h4⟩, h5⟩ := hc
    have h1 := of_decide_eq_true h1
    have h2 := of_decide_eq_true h2
    have h4 := of_decide_eq_true h4
    simp only [List.length_cons] at c1
    have le : ∀ i : Nat, i < (p.2 - b).toNat → 97 ≤ pCh (b + i) ∧ pCh (b + i) < 123 := fun i hi => of_decide_eq_true (List.all_eq_true.mp h3 i (List.mem_range.mpr hi))
    have eE : wE p = en (fun i => pCh (b + i)) (p.2 - b).toNat := by unfold wE; rw [h1]
    unfold kwF at q
    -- it isn't this one
    have no : enW tp f (e - f).toNat ≠ wE p → PW l G 6 mX10_wordAt bg 10 [(0, (2, 21)), (1, (0, f)), (2, (0, e)), (3, (0, c + 1)), (4, (0, p.2 + 1)), (5, (0, p.2 + 1))] [] (n, K, F, E) Q := fun z => by
      rw [if_neg z] at q
      exact ih (c + 1) (p.2 + 1) h5 (by omega) (by omega) q
    have lt : ∀ i : Nat, i < (e - f).toNat → 97 ≤ (fun i => tp (f + i)) (i : Int) ∧ (fun i => tp (f + i)) (i : Int) < 123 := fun i hi => hl (f + i) (by omega) (by omega)
    have same : enW tp f (e - f).toNat = wE p → p.2 - b = e - f ∧ ∀ i, f ≤ i → i < e → tp i = pCh (b + i - f) := fun z => by
      unfold enW at z
      split at z
      · rw [eE] at z
        obtain ⟨q1, q2⟩ := en_inj (a := fun i => tp (f + i)) (b := fun i => pCh (b + i)) (e - f).toNat (p.2 - b).toNat lt le z
        refine ⟨by omega, fun i i0 i1 => ?_⟩
        have := q2 (i - f).toNat (by omega)
        rw [show f + ((i - f).toNat : Int) = i by omega, show b + ((i - f).toNat : Int) = b + i - f by omega] at this
        exact this
      · have := en_pos (a := fun i => pCh (b + i)) (p.2 - b).toNat le
        rw [eE] at z
        omega
    have ends : PW l G 6 mX10_wordAt bg 10 [(0, (2, 21)), (1, (0, f)), (2, (0, e)), (3, (0, c)), (4, (0, b)), (5, (0, p.2))] [] (n, K, F, E) Q := by
      have spl : p.2 - b = e - f → PC l G 5 mX10_isSpelt (0, 0) [(2, 21), (0, f), (0, e), (0, b)] (n, K, F, E) (fun r μ => PW l G 6 mX10_wordAt bg 61 [(0, (2, 21)), (1, (0, f)), (2, (0, e)), (3, (0, c)), (5, (0, p.2))] (r.toList ++ []) μ Q) := fun y => by
        refine c_isSpelt (len := len) (tp := tp) hK hF h400 hj f0 e1 (by omega) h2.1 (by omega) fun v hv => ?_
        refine vX10_wordAt_61 21 f e c p.2 v ⟨fun z => ⟨by omega, by omega, no fun w => ?_⟩, fun z => ?_⟩
        · rcases hv with ⟨u, _⟩ | ⟨_, u⟩
          · omega
          · exact u (same w).2
        · rcases hv with ⟨_, u⟩ | ⟨u, _⟩
          · have ew : enW tp f (e - f).toNat = wE p := by
              unfold enW
              rw [if_pos (by omega), eE, show (p.2 - b).toNat = (e - f).toNat by omega]
              refine en_congr _ fun i hi => ?_
              have := u (f + i) (by omega) (by omega)
              rw [show b + (f + (i : Int)) - f = b + i by omega] at this
              exact this
            rw [if_pos ew] at q
            exact q
          · omega
      have d1 : ¬ p.2 - b = e - f → PW l G 6 mX10_wordAt bg 10 [(0, (2, 21)), (1, (0, f)), (2, (0, e)), (3, (0, c + 1)), (4, (0, p.2 + 1)), (5, (0, p.2 + 1))] [] (n, K, F, E) Q := fun y => no fun w => y (same w).1
      refine vX10_wordAt_10 21 f e c b p.2 ⟨fun z => absurd z (by omega), fun _ => ⟨fun z => ⟨by omega, by omega, fun y => ⟨by omega, by omega, d1 y⟩, fun y => ⟨by rw [hK.k21], spl y⟩⟩, fun z => ⟨by omega, fun y => absurd (h4.resolve_left z) y, fun _ => ⟨by omega, by omega, fun y => ⟨by omega, by omega, d1 y⟩, fun y => ⟨by rw [hK.k21], spl y⟩⟩⟩⟩⟩
    have lp : ∀ (w : Nat) (x : Int), x + w = p.2 → b ≤ x → PW l G 6 mX10_wordAt bg 10 [(0, (2, 21)), (1, (0, f)), (2, (0, e)), (3, (0, c)), (4, (0, b)), (5, (0, x))] [] (n, K, F, E) Q := by
      intro w
      induction w with
      | zero =>
        intro x ex x0
        obtain rfl : x = p.2 := by omega
        exact ends
      | succ w ih2 =>
        intro x ex x0
        have lx := le (x - b).toNat (by omega)
        rw [show b + ((x - b).toNat : Int) = x by omega] at lx
        exact vX10_wordAt_10 21 f e c b x ⟨fun z => absurd z (by omega), fun _ => ⟨fun z => absurd z (by omega), fun _ => ⟨by omega, fun _ => ⟨by omega, ih2 (x + 1) (by omega) (by omega)⟩, fun z => absurd z (by omega)⟩⟩⟩
    exact lp (p.2 - b).toNat b (by omega) (Int.le_refl b)
theorem c_wordAt (hK : KS K) (hF : FS F) (h400 : len ≤ 400) (hj : ∀ j, 0 ≤ j → j < len → bAnd (E 23 j) 255 = tp j) (f0 : 0 ≤ f) (e1 : e ≤ len) (fe : f < e) (hl : ∀ q, f ≤ q → q < e → 97 ≤ tp q ∧ tp q < 123) (hQ : Q (some (0, kwW (enW tp f (e - f).toNat))) (n, K, F, E)) : PC l G 6 mX10_wordAt bg [(2, 21), (0, f), (0, e)] (n, K, F, E) Q :=
  vX10_wordAt_0 21 f e (c_wordAt_10 hK hF h400 hj f0 e1 fe hl wB 259 0 chn_wB (by decide) (by decide) hQ)
end C
