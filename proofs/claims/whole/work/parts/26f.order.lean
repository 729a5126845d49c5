/-! ORDERS OF OPERATORS: the class's next order beside the reference's codes -/
def pl (n : Int) : List Int := if n = 0 then [0] else if n = 1 then [0] else if n = 2 then [1, 4] else if n = 3 then [6, 9, 18, 24, 33, 36] else [27, 30, 39, 45, 54, 57, 75, 78, 99, 108, 114, 120, 135, 141, 147, 156, 177, 180, 198, 201, 210, 216, 225, 228]
def dgT : Nat → Int → Int
  | 0, x => x % 4
  | t + 1, x => dgT t (x / 4)
/-- the order of a code -/
def dg (n k i : Int) : Int := dgT (n - 1 - i).toNat k
def layM : Nat → Int → Int → Int
  | 0, _, m => m
  | t + 1, x, m => layM t (x / 4) (bOr m (bShl 1 (x % 4)))
def lay (n : Nat) (k : Int) : Int := if layM n k 0 = bShl 1 n - 1 then 1 else 0
def rem (n k : Int) : List Int := (pl n).filter (fun x => decide (k ≤ x))
def nxI (f : Int → Int) : Nat → Int → Int
  | 0, i => i
  | t + 1, i => if i < 0 then i else if f i ≤ f (i + 1) then i else nxI f t (i + -1)
def nxJ (f : Int → Int) (i : Int) : Nat → Int → Int
  | 0, j => j
  | t + 1, j => if j ≤ i then j else if f i ≤ f j then j else nxJ f i t (j + -1)
def nxR : Nat → Int → Int → (Int → Int) → Int → Int
  | 0, _, _, f => f
  | t + 1, a, b, f => if b ≤ a then f else nxR t (a + 1) (b + -1) (rUp (rUp f a (f b)) b (f a))
def nxS (f : Int → Int) (i j : Int) : Int → Int := rUp (rUp f i (f j)) j (f i)
def nextA (n : Nat) (f : Int → Int) : Int := if nxI f n (n - 2) < 0 then 0 else 1
def nextF (n : Nat) (f : Int → Int) : Int → Int := if nxI f n (n - 2) < 0 then f else nxR n (nxI f n (n - 2) + 1) (n - 1) (nxS f (nxI f n (n - 2)) (nxJ f (nxI f n (n - 2)) n (n - 1)))
/-- from each order of the list the class comes to the next -/
def chk (n : Nat) : List Int → Bool
  | [] => true
  | k :: R => (match R with
    | [] => decide (nextA n (dg n k) = 0)
    | k' :: _ => decide (nextA n (dg n k) = 1) && (List.range n).all (fun i => decide (nextF n (dg n k) i = dg n k' i))) && chk n R
theorem chk_pl : chk 0 (pl 0) = true ∧ chk 1 (pl 1) = true ∧ chk 2 (pl 2) = true ∧ chk 3 (pl 3) = true ∧ chk 4 (pl 4) = true := by decide +kernel
theorem dg_rng : ∀ n : Fin 5, ∀ k ∈ pl n, ∀ i : Fin n, 0 ≤ dg n k i ∧ dg n k i < n := by decide +kernel
theorem rem_step : ∀ n : Fin 5, ∀ k : Fin (4 ^ (n : Nat)), if lay n k = 1 then rem n k = (k : Int) :: rem n (k + 1) else rem n k = rem n (k + 1) := by decide +kernel
theorem rem_ends : ∀ n : Fin 5, rem n (4 ^ (n : Nat)) = [] ∧ rem n 0 = pl n ∧ (pl n).length ≤ 24 ∧ (pl n) ≠ [] ∧ ∀ i : Fin n, dg n ((pl n).headD 0) i = i := by decide +kernel
theorem nxI_congr {f g : Int → Int} {n : Int} (h : ∀ i, 0 ≤ i → i < n → f i = g i) (t : Nat) : ∀ i, i + 1 < n → nxI f t i = nxI g t i := by
  induction t with
  | zero => intro i hi; rfl
  | succ t ih =>
    intro i hi
    unfold nxI
    by_cases z : i < 0
    · rw [if_pos z, if_pos z]
    · rw [if_neg z, if_neg z, h i (by omega) (by omega), h (i + 1) (by omega) (by omega), ih (i + -1) (by omega)]
theorem nxJ_congr {f g : Int → Int} {n i : Int} (h : ∀ i, 0 ≤ i → i < n → f i = g i) (i0 : 0 ≤ i) (t : Nat) : ∀ j, j < n → nxJ f i t j = nxJ g i t j := by
  induction t with
  | zero => intro j hj; rfl
  | succ t ih =>
    intro j hj
    unfold nxJ
    by_cases z : j ≤ i
    · rw [if_pos z, if_pos z]
    · rw [if_neg z, if_neg z, h i (by omega) (by omega), h j (by omega) (by omega), ih (j + -1) (by omega)]
theorem nxS_congr {f g : Int → Int} {n i j : Int} (h : ∀ i, 0 ≤ i → i < n → f i = g i) (i0 : 0 ≤ i) (i1 : i < n) (j0 : 0 ≤ j) (j1 : j < n) : ∀ p, 0 ≤ p → p < n → nxS f i j p = nxS g i j p := by
  intro p p0 p1
  unfold nxS rUp
  rw [h i i0 i1, h j j0 j1, h p p0 p1]
theorem nxR_congr {n : Int} (t : Nat) : ∀ (a b : Int) (f g : Int → Int), (∀ i, 0 ≤ i → i < n → f i = g i) → 0 ≤ a → b < n → ∀ p, 0 ≤ p → p < n → nxR t a b f p = nxR t a b g p := by
  induction t with
  | zero => intro a b f g h a0 b1 p p0 p1; exact h p p0 p1
  | succ t ih =>
    intro a b f g h a0 b1 p p0 p1
    unfold nxR
    by_cases z : b ≤ a
    · rw [if_pos z, if_pos z]; exact h p p0 p1
    · rw [if_neg z, if_neg z]
      exact ih (a + 1) (b + -1) _ _ (nxS_congr h a0 (by omega) (by omega) b1) (by omega) (by omega) p p0 p1
theorem nxI_rng {f : Int → Int} (t : Nat) : ∀ i : Int, -1 ≤ i → i < t → -1 ≤ nxI f t i ∧ nxI f t i ≤ i := by
  induction t with
  | zero => intro i h0 h1; unfold nxI; omega
  | succ t ih =>
    intro i h0 h1
    unfold nxI
    split
    · omega
    · split
      · omega
      · have := ih (i + -1) (by omega) (by omega)
        omega
theorem nxJ_rng {f : Int → Int} {i : Int} (t : Nat) : ∀ j, i ≤ j → i ≤ nxJ f i t j ∧ nxJ f i t j ≤ j := by
  induction t with
  | zero => intro j h; unfold nxJ; omega
  | succ t ih =>
    intro j h
    unfold nxJ
    split
    · omega
    · split
      · omega
      · have := ih (j + -1) (by omega)
        omega
theorem next_congr {n : Nat} {f g : Int → Int} (h : ∀ i, 0 ≤ i → i < (n : Int) → f i = g i) : nextA n f = nextA n g ∧ ∀ p, 0 ≤ p → p < (n : Int) → nextF n f p = nextF n g p := by
  by_cases e0 : n = 0
  · subst e0
    exact ⟨rfl, fun p p0 p1 => absurd p1 (by omega)⟩
  · have e1 := nxI_congr h n ((n : Int) - 2) (by omega)
    have rg := nxI_rng (f := g) n ((n : Int) - 2) (by omega) (by omega)
    unfold nextA nextF
    rw [e1]
    refine ⟨rfl, fun p p0 p1 => ?_⟩
    generalize nxI g n ((n : Int) - 2) = i at *
    by_cases z : i < 0
    · rw [if_pos z, if_pos z]; exact h p p0 p1
    · rw [if_neg z, if_neg z, nxJ_congr h (by omega) n ((n : Int) - 1) (by omega)]
      have rj := nxJ_rng (f := g) (i := i) n ((n : Int) - 1) (by omega)
      exact nxR_congr n _ _ _ _ (nxS_congr h (by omega) (by omega) (by omega) (by omega)) (by omega) (by omega) p p0 p1
section C
variable {l : Launch} {G : pG} {bg : Nat × Nat} {n : Nat} {K : Int → Nat × Nat} {F : Int → Int → Int} {Q : Option pV → pM → Prop} {N : Nat}
theorem c_nextOrder_71 (hK : KS K) (N4 : N ≤ 4) (t : Nat) : ∀ (a b : Int) (E : Int → Int → Int), 0 ≤ a → b < N → b - a < 2 * t → Q (some (0, 1)) (n, K, F, pRow E 51 (nxR t a b (E 51))) → PW l G 1 mX11_nextOrder bg 71 [(0, (2, 51)), (4, (0, a)), (5, (0, b))] [] (n, K, F, E) Q := by
  induction t with
  | zero =>
    intro a b E a0 b1 hb q
    unfold nxR at q
    rw [pRow_self] at q
    exact vX11_nextOrder_71 51 a b ⟨fun _ => q, fun z => absurd (by omega) z⟩
  | succ t ih =>
    intro a b E a0 b1 hb q
    unfold nxR at q
    refine vX11_nextOrder_71 51 a b ?_
    rw [hK.k51]
    refine ⟨fun z => ?_, fun z => ⟨rfl, by omega, by omega, by decide, fun E1 e1 E2 e2 => ⟨by omega, by omega, ?_⟩⟩⟩
    · rw [if_pos z, pRow_self] at q
      exact q
    · rw [if_neg z] at q
      refine ih (a + 1) (b + -1) E2 (by omega) (by omega) (by omega) ?_
      have q2 : E2 = pRow E 51 (rUp (rUp (E 51) a (E 51 b)) b (E 51 a)) := by
        rw [e2, e1, pUp_row, pUp_row, pRow_row, pRow_at]
      rw [q2, pRow_row, pRow_at]
      exact q
theorem c_nextOrder_35 {E : Int → Int → Int} {i : Int} (hK : KS K) (N4 : N ≤ 4) (i0 : 0 ≤ i) (i1 : i < N) (t : Nat) : ∀ (j : Int), j < N → i ≤ j → j - i < t → Q (some (0, 1)) (n, K, F, pRow E 51 (nxR N (i + 1) (N - 1) (nxS (E 51) i (nxJ (E 51) i t j)))) → PW l G 1 mX11_nextOrder bg 35 [(0, (2, 51)), (1, (0, N)), (2, (0, i)), (3, (0, j))] [] (n, K, F, E) Q := by
  induction t with
  | zero => intro j j1 j2 j3 q; omega
  | succ t ih =>
    intro j j1 j2 j3 q
    unfold nxJ at q
    have go : nxR N (i + 1) (N - 1) (nxS (E 51) i j) = nxR N (i + 1) (N - 1) (nxS (E 51) i j) → Q (some (0, 1)) (n, K, F, pRow E 51 (nxR N (i + 1) (N - 1) (nxS (E 51) i j))) → ∀ E1, E1 = pUp E 51 i (E 51 j) → ∀ E2, E2 = pUp E1 51 j (E 51 i) → PW l G 1 mX11_nextOrder bg 71 [(0, (2, 51)), (4, (0, i + 1)), (5, (0, (N : Int) - 1))] [] (n, K, F, E2) Q := fun _ q E1 e1 E2 e2 => by
      have q2 : E2 = pRow E 51 (nxS (E 51) i j) := by
        rw [e2, e1, pUp_row, pUp_row, pRow_row, pRow_at]
        rfl
      refine c_nextOrder_71 (N := N) hK N4 N (i + 1) ((N : Int) - 1) E2 (by omega) (by omega) (by omega) ?_
      rw [q2, pRow_row, pRow_at]
      exact q
    refine vX11_nextOrder_35 51 N i j ?_
    rw [hK.k51]
    refine ⟨fun z => ⟨rfl, by omega, by omega, by decide, fun E1 e1 E2 e2 => ⟨by omega, by omega, ?_⟩⟩, fun z => ⟨rfl, by omega, by omega, fun y => ⟨by decide, fun E3 e3 E4 e4 => ⟨by omega, by omega, ?_⟩⟩, fun y => ⟨by omega, ?_⟩⟩⟩
    · rw [if_pos z] at q
      exact go rfl q E1 e1 E2 e2
    · rw [if_neg z, if_pos y] at q
      exact go rfl q E3 e3 E4 e4
    · rw [if_neg z, if_neg y] at q
      exact ih (j + -1) (by omega) (by omega) (by omega) q
theorem c_nextOrder {E : Int → Int → Int} (hK : KS K) (N4 : N ≤ 4) (hQ : Q (some (0, nextA N (E 51))) (n, K, F, pRow E 51 (nextF N (E 51)))) : PC l G 1 mX11_nextOrder bg [(2, 51), (0, N)] (n, K, F, E) Q := by
  have lp : ∀ (t : Nat) (i : Int), i + 1 < N → i < t → -2 ≤ i → Q (some (0, if nxI (E 51) t i < 0 then 0 else 1)) (n, K, F, pRow E 51 (if nxI (E 51) t i < 0 then E 51 else nxR N (nxI (E 51) t i + 1) (N - 1) (nxS (E 51) (nxI (E 51) t i) (nxJ (E 51) (nxI (E 51) t i) N (N - 1))))) → PW l G 1 mX11_nextOrder bg 4 [(0, (2, 51)), (1, (0, N)), (2, (0, i))] [] (n, K, F, E) Q := by
    intro t
    induction t with
    | zero =>
      intro i i1 i2 i3 q
      unfold nxI at q
      rw [if_pos (by omega), if_pos (by omega), pRow_self] at q
      exact vX11_nextOrder_4 51 N i ⟨fun _ => ⟨fun y => absurd y (by omega), fun _ => q⟩, fun z => absurd (by omega) z⟩
    | succ t ih =>
      intro i i1 i2 i3 q
      unfold nxI at q
      refine vX11_nextOrder_4 51 N i ?_
      rw [hK.k51]
      refine ⟨fun z => ⟨fun y => absurd y (by omega), fun _ => ?_⟩, fun z => ⟨rfl, by omega, by omega, by omega, fun y => ⟨fun _ => ⟨by omega, ?_⟩, fun x => absurd (by omega) x⟩, fun y => ⟨by omega, ?_⟩⟩⟩
      · rw [if_pos z, if_pos z, if_pos z, pRow_self] at q
        exact q
      · rw [if_neg z, if_pos y, if_neg z, if_neg z] at q
        exact c_nextOrder_35 hK N4 (by omega) (by omega) N ((N : Int) - 1) (by omega) (by omega) (by omega) q
      · rw [if_neg z, if_neg y] at q
        exact ih (i + -1) (by omega) (by omega) (by omega) q
  exact vX11_nextOrder_0 51 N ⟨by omega, lp N ((N : Int) - 2) (by omega) (by omega) (by omega) hQ⟩
end C
section R
variable {l : Launch} {G : pG} {bg : Nat × Nat} {n : Nat} {K : Int → Nat × Nat} {F : Int → Int → Int} {Q : Option pV → pM → Prop} {N : Nat}
theorem r_layOrder_18 (hK : KS K) (hF : FS F) (N4 : N ≤ 4) (t : Nat) : ∀ (x m : Int) (E : Int → Int → Int), t ≤ N → 0 ≤ x → x < 256 → (∀ E', (∀ r, r ≠ 96 → E' r = E r) → (∀ i, 0 ≤ i → i < (t : Int) → E' 96 i = dg t x i) → (∀ i, (t : Int) ≤ i → E' 96 i = E 96 i) → Q (some (0, if layM t x m = bShl 1 N - 1 then 1 else 0)) (n, K, F, E')) → PW l G 0 mX12_layOrder bg 18 [(0, (2, 66)), (2, (0, N)), (3, (0, x)), (4, (0, m)), (5, (0, (t : Int) - 1))] [] (n, K, F, E) Q := by
  have bs : 1 ≤ bShl 1 (N : Int) ∧ bShl 1 (N : Int) ≤ 16 := by
    rcases (show N = 0 ∨ N = 1 ∨ N = 2 ∨ N = 3 ∨ N = 4 by omega) with e | e | e | e | e <;> subst e <;> decide
  induction t with
  | zero =>
    intro x m E t1 x0 x1 hQ
    have q := hQ E (fun _ _ => rfl) (fun i i0 i1 => absurd i1 (by omega)) (fun _ _ => rfl)
    unfold layM at q
    refine vX12_layOrder_18 66 N x m _ ⟨fun _ => ⟨by omega, fun z => ?_, fun z => ?_⟩, fun z => absurd (by omega) z⟩
    · rw [if_neg z] at q; exact q
    · rw [if_pos z] at q; exact q
  | succ t ih =>
    intro x m E t1 x0 x1 hQ
    refine vX12_layOrder_18 66 N x m _ ?_
    simp only [hF.f66_57, hK.k66, hK.k96]
    rw [Int.tmod_eq_emod_of_nonneg x0, Int.tdiv_eq_ediv_of_nonneg x0, w32_id (x := x / 4) (by omega) (by omega), show ((t + 1 : Nat) : Int) - 1 = t by omega, show (t : Int) + -1 = (t : Int) - 1 by omega]
    refine ⟨fun z => absurd z (by omega), fun _ => ⟨trivial, by decide, trivial, by omega, fun E1 e1 => ⟨by omega, ?_⟩⟩⟩
    refine ih (x / 4) _ E1 (by omega) (by omega) (by omega) fun E' r' d' u' => ?_
    refine hQ E' (fun p hp => by rw [r' p hp, e1, pUp_an hp]) (fun i i0 i1 => ?_) (fun i hi => ?_)
    · by_cases z : i = t
      · rw [u' i (by omega), e1, z, pUp_s]
        unfold dg
        rw [show (((t + 1 : Nat) : Int) - 1 - t).toNat = 0 by omega]
        rfl
      · rw [d' i i0 (by omega)]
        unfold dg
        rw [show (((t + 1 : Nat) : Int) - 1 - i).toNat = ((t : Int) - 1 - i).toNat + 1 by omega]
        rfl
    · rw [u' i (by omega), e1, pUp_k (by omega)]
theorem r_layOrder {E : Int → Int → Int} {x : Int} (hK : KS K) (hF : FS F) (N4 : N ≤ 4) (hN : E 68 6 = N) (x0 : 0 ≤ x) (x1 : x < 256) (hQ : ∀ E', (∀ r, r ≠ 96 → E' r = E r) → (∀ i, 0 ≤ i → i < (N : Int) → E' 96 i = dg N x i) → Q (some (0, lay N x)) (n, K, F, E')) : PC l G 0 mX12_layOrder bg [(2, 66), (0, x)] (n, K, F, E) Q := by
  refine vX12_layOrder_0 66 x ?_
  simp only [hF.f66_3, hK.k66, hK.k68, hN]
  exact ⟨trivial, trivial, by decide, by omega, r_layOrder_18 hK hF N4 N x 0 E (by omega) x0 x1 fun E' r' d' _ => hQ E' r' d'⟩
end R
