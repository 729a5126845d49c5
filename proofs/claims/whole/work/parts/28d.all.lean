/-! THE ROW OF TOKENS of a tape; the class reads it in one go, the reference one by one -/
theorem at_sp {tp : Int → Int} {len p : Int} (h : p < len ∧ tp p = 32) : tkAt tp len p = tkAt tp len (p + 1) := by
  unfold tkAt
  rw [show (len - p).toNat = (len - (p + 1)).toNat + 1 by omega]
  show (if p < len ∧ tp p = 32 then _ else _) = _
  rw [if_pos h]
theorem at_no {tp : Int → Int} {len p : Int} (h : ¬ (p < len ∧ tp p = 32)) : tkAt tp len p = p := by
  unfold tkAt
  match (len - p).toNat with
  | 0 => rfl
  | k + 1 =>
    show (if p < len ∧ tp p = 32 then _ else _) = _
    rw [if_neg h]
theorem at_rng {tp : Int → Int} {len p : Int} (h : p ≤ len) : p ≤ tkAt tp len p ∧ tkAt tp len p ≤ len := skp_rng _ p h
theorem run_one {lo hi : Int} {tp : Int → Int} {len f : Int} (h : f < len ∧ lo ≤ tp f ∧ tp f < hi) : f + 1 ≤ run lo hi tp len (len - f).toNat f ∧ run lo hi tp len (len - f).toNat f ≤ len := by
  rw [show (len - f).toNat = (len - f - 1).toNat + 1 by omega]
  show f + 1 ≤ (if f < len ∧ lo ≤ tp f ∧ tp f < hi then _ else _) ∧ (if f < len ∧ lo ≤ tp f ∧ tp f < hi then _ else _) ≤ len
  rw [if_pos h]
  exact run_rng _ (f + 1) (by omega)
theorem to_rng {tp : Int → Int} {len f : Int} (h : f < len) : f + 1 ≤ tkTo tp len f ∧ tkTo tp len f ≤ len := by
  by_cases a : 97 ≤ tp f ∧ tp f < 123
  · have s : tkSort tp len f = 1 := by unfold tkSort; rw [if_neg (by omega), if_pos a]
    unfold tkTo
    rw [if_neg (by omega), if_pos s]
    exact run_one ⟨h, a⟩
  · by_cases b : 48 ≤ tp f ∧ tp f < 58
    · have s : tkSort tp len f = 2 := by unfold tkSort; rw [if_neg (by omega), if_neg a, if_pos b]
      unfold tkTo
      rw [if_neg (by omega), if_neg (by omega), if_pos s]
      exact run_one ⟨h, b⟩
    · have s : tkSort tp len f = 3 := by unfold tkSort; rw [if_neg (by omega), if_neg a, if_neg b]
      unfold tkTo
      rw [if_neg (by omega), if_neg (by omega), if_neg (by omega)]
      omega
/-- where the search for the t-th token begins, and where it stands -/
def tkP (tp : Int → Int) (len : Int) : Nat → Int
  | 0 => 0
  | t + 1 => tkTo tp len (tkAt tp len (tkP tp len t))
def tkB (tp : Int → Int) (len : Int) (t : Nat) : Int := tkAt tp len (tkP tp len t)
/-- the class's rows of tokens, the last of them at t -/
def TkC (tp : Int → Int) (len : Int) (T : Nat) (E : Int → Int → Int) : Prop := tkB tp len T = len ∧ (T : Int) ≤ len ∧ (∀ s : Nat, s < T → tkB tp len s < len) ∧ (∀ s : Nat, s ≤ T → E 24 s = tkKind tp len (tkB tp len s) ∧ E 25 s = tkB tp len s) ∧ ∀ s : Nat, s < T → E 26 s = tkNum tp len (tkB tp len s)
theorem tkP_rng {tp : Int → Int} {len : Int} (h0 : 0 ≤ len) {T : Nat} (h : ∀ s : Nat, s < T → tkB tp len s < len) : ∀ t : Nat, t ≤ T → (t : Int) ≤ tkP tp len t ∧ tkP tp len t ≤ len := by
  intro t
  induction t with
  | zero => intro _; unfold tkP; omega
  | succ t ih =>
    intro ht
    have q := ih (by omega)
    have a := at_rng (tp := tp) q.2
    have b := h t (by omega)
    have c := to_rng (tp := tp) (show tkAt tp len (tkP tp len t) < len from b)
    unfold tkP
    omega
section C
variable {l : Launch} {G : pG} {bg : Nat × Nat} {n : Nat} {K : Int → Nat × Nat} {F : Int → Int → Int} {Q : Option pV → pM → Prop} {len : Int} {tp : Int → Int}
theorem c_readAll_6 (hK : KS K) (hF : FS F) (hlen : 0 ≤ len ∧ len ≤ 400) (h22 : F 22 1 = len) (w : Nat) : ∀ (t : Nat) (p i : Int) (E : Int → Int → Int), (∀ j, 0 ≤ j → j < len → bAnd (E 23 j) 255 = tp j) → len - p ≤ w → (t : Int) ≤ p → p ≤ len → 0 ≤ i → i ≤ p → tkAt tp len p = tkB tp len t → (∀ s : Nat, s < t → tkB tp len s < len ∧ E 24 s = tkKind tp len (tkB tp len s) ∧ E 25 s = tkB tp len s ∧ E 26 s = tkNum tp len (tkB tp len s)) →
    (∀ E' T, (∀ r, r ≠ 24 → r ≠ 25 → r ≠ 26 → E' r = E r) → TkC tp len T E' → Q none (n, K, F, E')) → PW l G 8 mX10_readAll bg 6 [(0, (2, 21)), (1, (0, (t : Int))), (2, (0, p)), (3, (0, i))] [] (n, K, F, E) Q := by
  induction w with
  | zero =>
    intro t p i E hj hw tp0 p1 i0 i1 ha hs hQ
    obtain rfl : p = len := by omega
    have bt : tkB tp p t = p := by rw [← ha]; exact at_no (by omega)
    have fin : ∀ E3, E3 = pUp E 24 t 256 → ∀ E4, E4 = pUp E3 25 t p → Q none (n, K, F, E4) := fun E3 e3 E4 e4 => by
      refine hQ E4 t (fun r h1 h2 h3 => by rw [e4, pUp_an h2, e3, pUp_an h1]) ⟨bt, tp0, fun s h => (hs s h).1, fun s h => ?_, fun s h => by rw [e4, pUp_an (by decide), e3, pUp_an (by decide)]; exact (hs s h).2.2.2⟩
      by_cases q : s = t
      · subst q
        rw [e4, pUp_an (by decide), e3, pUp_s, pUp_s, bt]
        refine ⟨?_, rfl⟩
        unfold tkKind
        rw [if_pos (by unfold tkSort; rw [if_pos rfl])]
      · rw [e4, pUp_an (by decide), e3, pUp_k (by omega), pUp_k (by omega), pUp_an (by decide)]
        exact ⟨(hs s (by omega)).2.1, (hs s (by omega)).2.2.1⟩
    refine vX10_readAll_6 21 t p i ?_
    simp only [hF.f21_0, hF.f21_1, hF.f21_2, hK.k21, hK.k22, hK.k24, hK.k25, h22]
    exact ⟨fun _ => ⟨trivial, by decide, trivial, by omega, fun E1 e1 => ⟨trivial, by decide, trivial, by omega, fin E1 e1⟩⟩, fun _ => ⟨trivial, trivial, fun _ => ⟨by decide, trivial, by omega, fun E1 e1 => ⟨by decide, trivial, by omega, fin E1 e1⟩⟩, fun z => absurd (Int.le_refl p) z⟩⟩
  | succ w ih =>
    intro t p i E hj hw tp0 p1 i0 i1 ha hs hQ
    by_cases pe : p = len
    · exact ih t p i E hj (by omega) tp0 p1 i0 i1 ha hs hQ
    · refine vX10_readAll_6 21 t p i ?_
      simp only [hF.f21_0, hF.f21_2, hF.f22_0, hK.k21, hK.k22, hK.k23, hK.k25, h22]
      rw [hj p (by omega) (by omega)]
      refine ⟨fun z => absurd z (by omega), fun _ => ⟨trivial, trivial, fun z => absurd z (by omega), fun _ => ⟨by decide, trivial, by omega, fun y => ⟨by decide, trivial, by omega, fun E5 e5 => ?_⟩, fun y => ⟨by omega, by omega, ?_⟩⟩⟩⟩
      · have bt : tkB tp len t = p := by rw [← ha]; exact at_no (fun q => y q.2)
        have tr := to_rng (tp := tp) (show p < len by omega)
        refine c_readOne (tp := tp) hK hF hlen.2 h22 (fun j a b => by rw [e5, pUp_an (by decide)]; exact hj j a b) (by omega) (by omega) (by omega) (by omega) fun E6 n6 o6 k6 v6 => ?_
        refine vX10_readAll_56 21 t i _ ⟨by omega, by omega, ?_⟩
        have q := ih (t + 1) (tkTo tp len p) (i + 1) E6 (fun j a b => by rw [n6 23 (by decide) (by decide), e5, pUp_an (by decide)]; exact hj j a b) (by omega) (by omega) tr.2 (by omega) (by omega) (by rw [show tkB tp len (t + 1) = tkAt tp len (tkTo tp len (tkB tp len t)) from rfl, bt]) (fun s h => ?_) (fun E' T n' tk => hQ E' T (fun r h1 h2 h3 => by rw [n' r h1 h2 h3, n6 r h1 h3, e5, pUp_an h2]) tk)
        · rw [show ((t + 1 : Nat) : Int) = (t : Int) + 1 by omega] at q
          exact q
        · by_cases e : s = t
          · subst e
            rw [n6 25 (by decide) (by decide), e5, pUp_s, bt]
            exact ⟨by omega, k6, rfl, v6⟩
          · have o := o6 s (by omega)
            have z := hs s (by omega)
            rw [o.1, o.2, n6 25 (by decide) (by decide), e5, pUp_an (by decide : (24 : Int) ≠ 25), pUp_an (by decide : (26 : Int) ≠ 25), pUp_k (by omega)]
            exact z
      · exact ih t (p + 1) (i + 1) E hj (by omega) (by omega) (by omega) (by omega) (by omega) (by rw [← at_sp ⟨by omega, y⟩]; exact ha) hs hQ
theorem c_readAll {E : Int → Int → Int} (hK : KS K) (hF : FS F) (hlen : 0 ≤ len ∧ len ≤ 400) (h22 : F 22 1 = len) (hj : ∀ j, 0 ≤ j → j < len → bAnd (E 23 j) 255 = tp j) (hQ : ∀ E' T, (∀ r, r ≠ 24 → r ≠ 25 → r ≠ 26 → E' r = E r) → TkC tp len T E' → Q none (n, K, F, E')) : PC l G 8 mX10_readAll bg [(2, 21)] (n, K, F, E) Q :=
  vX10_readAll_0 21 (c_readAll_6 hK hF hlen h22 len.toNat 0 0 0 E hj (by omega) (by decide) hlen.1 (by decide) (by decide) rfl (fun s h => absurd h (by omega)) hQ)
end C
