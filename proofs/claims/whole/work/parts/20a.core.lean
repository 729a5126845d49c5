/-! CORES: rows of 117 cells, what acts make of them; contracts of Core's methods -/
def cz (f : Int → Int) : Int → Int := fun k => if 0 ≤ k ∧ k < 117 then f k else 0
def sh6 (g : Int → Int) : Int → Int := fun k => g (k + 6)
theorem cz_in {f : Int → Int} {k : Int} (h0 : 0 ≤ k) (h1 : k < 117) : cz f k = f k := if_pos ⟨h0, h1⟩
theorem cz_ext {f g : Int → Int} (h : ∀ k, 0 ≤ k → k < 117 → f k = g k) : cz f = cz g := by
  funext k
  unfold cz
  by_cases q : 0 ≤ k ∧ k < 117
  · rw [if_pos q, if_pos q, h k q.1 q.2]
  · rw [if_neg q, if_neg q]
theorem cz_eq {f g : Int → Int} (h : cz f = cz g) {k : Int} (h0 : 0 ≤ k) (h1 : k < 117) : f k = g k := by
  rw [← cz_in (f := f) h0 h1, h, cz_in h0 h1]
theorem cz_cz {f : Int → Int} : cz (cz f) = cz f := cz_ext fun _ h0 h1 => cz_in h0 h1
theorem cz_up {f : Int → Int} {k v : Int} (h0 : 0 ≤ k) (h1 : k < 117) : cz (rUp f k v) = rUp (cz f) k v := by
  funext j
  unfold cz rUp
  by_cases e : j = k
  · rw [if_pos (by omega), if_pos e, if_pos e]
  · rw [if_neg e, if_neg e]
theorem cz_sh {f : Int → Int} {lo hi d : Int} (h0 : 0 ≤ lo) (hd : 0 ≤ d) (h1 : hi + d ≤ 117) : cz (rSh f lo hi d) = rSh (cz f) lo hi d := by
  funext j
  unfold cz rSh
  by_cases e : lo ≤ j ∧ j < hi
  · rw [if_pos (by omega), if_pos e, if_pos e]
    exact (cz_in (by omega) (by omega)).symm
  · rw [if_neg e, if_neg e]
theorem sh6_up {g : Int → Int} {k k' v : Int} (h : k' = k + 6) : sh6 (rUp g k' v) = rUp (sh6 g) k v := by
  funext j
  unfold sh6 rUp
  by_cases e : j = k
  · rw [if_pos (by omega), if_pos e]
  · rw [if_neg (by omega), if_neg e]
theorem sh6_sh {g : Int → Int} {lo lo' hi hi' d d' : Int} (h : lo' = lo + 6) (h' : hi' = hi + 6) (hd : d' = d) : sh6 (rSh g lo' hi' d') = rSh (sh6 g) lo hi d := by
  subst hd
  funext j
  unfold sh6 rSh
  by_cases e : lo ≤ j ∧ j < hi
  · rw [if_pos (by omega), if_pos e, show j + 6 + d' = j + d' + 6 by omega]
  · rw [if_neg (by omega), if_neg e]
theorem rel_cz {f g : Int → Int} (h : Rel f g) : cz (sh6 g) = cz f := cz_ext fun k h0 h1 => h k h0 h1
theorem rel_of {f g : Int → Int} (h : cz (sh6 g) = cz f) : Rel f g := fun _ h0 h1 => cz_eq h h0 h1
theorem rUp_eq {r : Int → Int} {k v : Int} (h : r k = v) : rUp r k v = r := by
  funext j
  unfold rUp
  by_cases e : j = k
  · rw [if_pos e, e, h]
  · rw [if_neg e]
/-! what acts make of a core -/
def cDrop (c : Int → Int) (r m : Int) : Int → Int := rSh (rUp c (9 + r) (c (9 + r) - m)) (36 + r * 9 * 3) (36 + r * 9 * 3 + (c (9 + r) - m) * 3) (m * 3)
def cWin (c : Int → Int) (r w : Int) : Int → Int := cDrop (rUp c (3 + r) w) r (max 0 (c (9 + r) - w))
def cIdx (c : Int → Int) (r i : Int) : Int → Int := rUp c (6 + r) i
def cTell (c : Int → Int) (f r d t q : Int) : Int → Int := rUp (rUp (rUp (rUp (rUp (rUp (rUp c (12 + c 0 * 6) f) (12 + c 0 * 6 + 1) r) (12 + c 0 * 6 + 2) d) (12 + c 0 * 6 + 3) t) (12 + c 0 * 6 + 4) q) (12 + c 0 * 6 + 5) 0) 0 (c 0 + 1)
def cStrike (c : Int → Int) (o : Int) : Int → Int := rSh (rUp c 0 (c 0 - 1)) (12 + o * 6) (12 + (c 0 - 1) * 6) 6
def cTick (c t : Int → Int) : Int → Int := fun k => if 12 ≤ k ∧ k < 12 + c 0 * 6 ∧ (k - 12) % 6 = 5 then t ((k - 12) / 6) else c k
def cPut (c : Int → Int) (r a b : Int) : Int → Int := rUp (rUp (rUp (rUp c (36 + (r * 9 + c (9 + r)) * 3) a) (36 + (r * 9 + c (9 + r)) * 3 + 1) b) (36 + (r * 9 + c (9 + r)) * 3 + 2) (c 1)) (9 + r) (c (9 + r) + 1)
def cGrow (c : Int → Int) (m : Int) : Int → Int := rUp (rUp c 1 (c 1 + 1)) 2 (c 2 + m)
def cAdd (c : Int → Int) (r a b m : Int) : Int → Int := if c (9 + r) < c (3 + r) then cPut (cGrow c m) r a b else cPut (cDrop (cGrow c m) r 1) r a b
section C
variable {l : Launch} {G : pG} {bg : Nat × Nat} {n : Nat} {K : Int → Nat × Nat} {F : Int → Int → Int} {Q : Option pV → pM → Prop} {x c r m : Int}
theorem sh_step {E : Int → Int → Int} {c i hi d : Int} (h : i < hi) (hd : 0 ≤ d) : pRow (pUp E c i (E c (i + d))) c (rSh (pUp E c i (E c (i + d)) c) (i + 1) hi d) = pRow E c (rSh (E c) i hi d) := by
  rw [pUp_row, pRow_row, pRow_at, rSh_step h hd]
theorem c_dropOldest_41 (hx : (K x).1 = 0) (hc : F x 0 = c) (hk : K c = (20, 117)) (c0 : 0 ≤ c) {hi : Int} (m0 : 0 ≤ m) (m1 : hi + m * 3 ≤ 117) (t : Nat) : ∀ (i : Int) (E : Int → Int → Int), i + t = hi → 36 ≤ i → Q none (n, K, F, pRow E c (rSh (E c) i hi (m * 3))) → PW l G 0 mX0_dropOldest bg 41 [(0, (2, x)), (2, (0, m)), (4, (0, hi)), (5, (0, i))] [] (n, K, F, E) Q := by
  induction t with
  | zero =>
    intro i E e i0 q
    refine vX0_dropOldest_41 x m hi i ⟨fun _ => ?_, fun z => absurd (by omega) z⟩
    rw [rSh_none (by omega), pRow_self] at q
    exact q
  | succ t ih =>
    intro i E e i0 q
    refine vX0_dropOldest_41 x m hi i ⟨fun z => absurd z (by omega), fun _ => ?_⟩
    rw [hc, hk]
    refine ⟨hx, by omega, by omega, rfl, ⟨by omega, show i + m * 3 < 117 by omega⟩, c0, ⟨by omega, show i < 117 by omega⟩, fun E1 e1 => ⟨by omega, ?_⟩⟩
    subst e1
    refine ih (i + 1) _ (by omega) (by omega) ?_
    rw [sh_step (by omega) (by omega)]
    exact q
theorem c_dropOldest {E : Int → Int → Int} (hx : (K x).1 = 0) (hc : F x 0 = c) (hk : K c = (20, 117)) (c0 : 0 ≤ c) (r0 : 0 ≤ r) (r1 : r < 3) (m0 : 0 ≤ m) (m1 : m ≤ E c (9 + r)) (h9 : E c (9 + r) ≤ 9) (hQ : Q none (n, K, F, pRow E c (cDrop (E c) r m))) : PC l G 0 mX0_dropOldest bg [(2, x), (0, r), (0, m)] (n, K, F, E) Q := by
  refine vX0_dropOldest_0 x r m ?_
  rw [hc, hk]
  refine ⟨hx, by omega, rfl, ⟨by omega, show 9 + r < 117 by omega⟩, by omega, c0, fun E1 e1 => ⟨by omega, by omega, by omega, by omega, by omega, fun a2 e2 => ?_⟩⟩
  subst e1
  subst e2
  refine c_dropOldest_41 hx hc hk c0 m0 (by omega) ((E c (9 + r) - m) * 3).toNat _ _ (by omega) (by omega) ?_
  rw [pUp_row, pRow_row, pRow_at]
  exact hQ
theorem c_setWindow {E : Int → Int → Int} {w : Int} (hx : (K x).1 = 0) (hc : F x 0 = c) (hk : K c = (20, 117)) (c0 : 0 ≤ c) (r0 : 0 ≤ r) (r1 : r < 3) (w0 : 0 ≤ w) (w1 : w ≤ 9) (h0 : 0 ≤ E c (9 + r)) (h9 : E c (9 + r) ≤ 9) (hQ : Q (some (0, max 0 (E c (9 + r) - w))) (n, K, F, pRow E c (cWin (E c) r w))) : PC l G 1 mX0_setWindow bg [(2, x), (0, r), (0, w)] (n, K, F, E) Q := by
  refine vX0_setWindow_0 x r w ?_
  rw [hc, hk]
  have e9 : pUp E c (3 + r) w c (9 + r) = E c (9 + r) := pUp_k (by omega)
  refine ⟨hx, by omega, c0, rfl, ⟨by omega, show 3 + r < 117 by omega⟩, fun E1 e1 => ⟨by omega, ⟨by omega, show 9 + r < 117 by omega⟩, ?_⟩⟩
  subst e1
  rw [e9]
  refine ⟨by omega, c_dropOldest hx hc hk c0 r0 r1 (by omega) (by rw [e9]; omega) (by rw [e9]; omega) ?_⟩
  refine vX0_setWindow_31 _ ?_
  rw [pUp_row, pRow_row, pRow_at]
  exact hQ
theorem c_removeOperator_31 (hx : (K x).1 = 0) (hc : F x 0 = c) (hk : K c = (20, 117)) (c0 : 0 ≤ c) {hi : Int} (m1 : hi + 6 ≤ 117) (t : Nat) : ∀ (i : Int) (E : Int → Int → Int), i + t = hi → 12 ≤ i → Q (some (0, E c 0)) (n, K, F, pRow E c (rSh (E c) i hi 6)) → PW l G 0 mX0_removeOperator bg 31 [(0, (2, x)), (2, (0, hi)), (3, (0, i))] [] (n, K, F, E) Q := by
  induction t with
  | zero =>
    intro i E e i0 q
    refine vX0_removeOperator_31 x hi i ⟨fun _ => ?_, fun z => absurd (by omega) z⟩
    rw [rSh_none (by omega), pRow_self] at q
    rw [hc, hk]
    exact ⟨hx, rfl, ⟨by omega, by decide⟩, q⟩
  | succ t ih =>
    intro i E e i0 q
    refine vX0_removeOperator_31 x hi i ⟨fun z => absurd z (by omega), fun _ => ?_⟩
    rw [hc, hk]
    refine ⟨hx, by omega, rfl, ⟨by omega, show i + 6 < 117 by omega⟩, c0, ⟨by omega, show i < 117 by omega⟩, fun E1 e1 => ⟨by omega, ?_⟩⟩
    subst e1
    refine ih (i + 1) _ (by omega) (by omega) ?_
    rw [sh_step (by omega) (by omega), pUp_k (by omega)]
    exact q
theorem c_removeOperator {E : Int → Int → Int} {o : Int} (hx : (K x).1 = 0) (hc : F x 0 = c) (hk : K c = (20, 117)) (c0 : 0 ≤ c) (o0 : 0 ≤ o) (o1 : o < E c 0) (o2 : E c 0 ≤ 4) (hQ : Q (some (0, E c 0 - 1)) (n, K, F, pRow E c (cStrike (E c) o))) : PC l G 0 mX0_removeOperator bg [(2, x), (0, o)] (n, K, F, E) Q := by
  refine vX0_removeOperator_0 x o ?_
  rw [hc, hk]
  refine ⟨hx, rfl, ⟨by omega, by decide⟩, by omega, c0, fun E1 e1 => ⟨by omega, by omega, by omega, by omega, ?_⟩⟩
  subst e1
  refine c_removeOperator_31 hx hc hk c0 (by omega) ((E c 0 - 1) * 6 - o * 6).toNat _ _ (by omega) (by omega) ?_
  rw [pUp_row, pRow_row, pRow_at, rUp_s]
  exact hQ
theorem c_addOperator {E : Int → Int → Int} {f d t q : Int} (hx : (K x).1 = 0) (hc : F x 0 = c) (hk : K c = (20, 117)) (c0 : 0 ≤ c) (o1 : 0 ≤ E c 0) (o2 : E c 0 < 4) (hQ : Q (some (0, E c 0)) (n, K, F, pRow E c (cTell (E c) f r d t q))) : PC l G 0 mX0_addOperator bg [(2, x), (0, f), (0, r), (0, d), (0, t), (0, q)] (n, K, F, E) Q := by
  refine vX0_addOperator_0 x f r d t q ?_
  rw [hc, hk]
  have b : ((20, 117) : Nat × Nat).2 = 117 := rfl
  rw [b]
  refine ⟨hx, rfl, ⟨by omega, by decide⟩, by omega, by omega, c0, by omega, fun E1 e1 => ⟨by omega, by omega, fun E2 e2 => ⟨by omega, by omega, fun E3 e3 => ⟨by omega, by omega, fun E4 e4 => ⟨by omega, by omega, fun E5 e5 => ⟨by omega, by omega, fun E6 e6 => ⟨by omega, fun E7 e7 => ?_⟩⟩⟩⟩⟩⟩⟩
  subst e1 e2 e3 e4 e5 e6 e7
  simp only [pUp_row, pRow_row, pRow_at]
  exact hQ
theorem c_setTickets_2 {y : Int} (hx : (K x).1 = 0) (hc : F x 0 = c) (hk : K c = (20, 117)) (c0 : 0 ≤ c) (hy : K y = (20, 4)) (hn : y ≠ c) (t : Nat) : ∀ (i : Int) (E : Int → Int → Int), E c 0 ≤ 4 → i + t = E c 0 → 0 ≤ i → Q none (n, K, F, pRow E c (fun k => if 12 + i * 6 ≤ k ∧ k < 12 + E c 0 * 6 ∧ (k - 12) % 6 = 5 then E y ((k - 12) / 6) else E c k)) → PW l G 0 mX0_setTickets bg 2 [(0, (2, x)), (1, (2, y)), (2, (0, i))] [] (n, K, F, E) Q := by
  induction t with
  | zero =>
    intro i E o2 e i0 q
    refine vX0_setTickets_2 x y i ?_
    rw [hc, hk]
    refine ⟨hx, rfl, ⟨by omega, by decide⟩, fun _ => ?_, fun z => absurd (by omega) z⟩
    have e2 : (fun k => if 12 + i * 6 ≤ k ∧ k < 12 + E c 0 * 6 ∧ (k - 12) % 6 = 5 then E y ((k - 12) / 6) else E c k) = E c := by
      funext k
      rw [if_neg (by omega)]
    rw [e2, pRow_self] at q
    exact q
  | succ t ih =>
    intro i E o2 e i0 q
    refine vX0_setTickets_2 x y i ?_
    rw [hc, hk, hy]
    refine ⟨hx, rfl, ⟨by omega, by decide⟩, fun z => absurd z (by omega), fun _ => ⟨by omega, by omega, by omega, rfl, ⟨i0, show i < 4 by omega⟩, c0, ⟨by omega, show 12 + i * 6 + 5 < 117 by omega⟩, fun E1 e1 => ⟨by omega, ?_⟩⟩⟩
    subst e1
    have z0 : pUp E c (12 + i * 6 + 5) (E y i) c 0 = E c 0 := pUp_k (by omega)
    refine ih (i + 1) _ (by rw [z0]; omega) (by rw [z0]; omega) (by omega) ?_
    rw [z0, pUp_an hn, pUp_row, pRow_row, pRow_at]
    have e2 : (fun k => if 12 + (i + 1) * 6 ≤ k ∧ k < 12 + E c 0 * 6 ∧ (k - 12) % 6 = 5 then E y ((k - 12) / 6) else rUp (E c) (12 + i * 6 + 5) (E y i) k) = (fun k => if 12 + i * 6 ≤ k ∧ k < 12 + E c 0 * 6 ∧ (k - 12) % 6 = 5 then E y ((k - 12) / 6) else E c k) := by
      funext k
      unfold rUp
      by_cases a : k = 12 + i * 6 + 5
      · rw [if_neg (by omega), if_pos a, if_pos (by omega), show (k - 12) / 6 = i by omega]
      · by_cases b : 12 + i * 6 ≤ k ∧ k < 12 + E c 0 * 6 ∧ (k - 12) % 6 = 5
        · rw [if_pos (by omega), if_pos b]
        · rw [if_neg (by omega), if_neg a, if_neg b]
    rw [e2]
    exact q
theorem c_setTickets {y : Int} {E : Int → Int → Int} (hx : (K x).1 = 0) (hc : F x 0 = c) (hk : K c = (20, 117)) (c0 : 0 ≤ c) (hy : K y = (20, 4)) (hn : y ≠ c) (o1 : 0 ≤ E c 0) (o2 : E c 0 ≤ 4) (hQ : Q none (n, K, F, pRow E c (cTick (E c) (E y)))) : PC l G 0 mX0_setTickets bg [(2, x), (2, y)] (n, K, F, E) Q := by
  refine vX0_setTickets_0 x y (c_setTickets_2 hx hc hk c0 hy hn (E c 0).toNat 0 E o2 (by omega) (by omega) ?_)
  exact hQ
theorem c_addTuple {E : Int → Int → Int} {a b : Int} (hx : (K x).1 = 0) (hc : F x 0 = c) (hk : K c = (20, 117)) (c0 : 0 ≤ c) (r0 : 0 ≤ r) (r1 : r < 3) (s0 : 0 ≤ E c 1) (s1 : E c 1 < 999) (w0 : 1 ≤ E c (3 + r)) (w1 : E c (3 + r) ≤ 9) (h0 : 0 ≤ E c (9 + r)) (h1 : E c (9 + r) ≤ E c (3 + r)) (m0 : 0 ≤ E c 2 + m) (m1 : E c 2 + m < 2147483648) (hQ : Q none (n, K, F, pRow E c (cAdd (E c) r a b m))) : PC l G 1 mX0_addTuple bg [(2, x), (0, r), (0, a), (0, b), (0, m)] (n, K, F, E) Q := by
  refine vX0_addTuple_0 x r a b m ?_
  rw [hc, hk]
  have bb : ((20, 117) : Nat × Nat).2 = 117 := rfl
  rw [bb, w32_id (by omega) (by omega)]
  have g3 : cGrow (E c) m (3 + r) = E c (3 + r) := by unfold cGrow; rw [rUp_n (by omega), rUp_n (by omega)]
  have g9 : cGrow (E c) m (9 + r) = E c (9 + r) := by unfold cGrow; rw [rUp_n (by omega), rUp_n (by omega)]
  have g1 : cGrow (E c) m 1 = E c 1 + 1 := by unfold cGrow; rw [rUp_n (by omega), rUp_s]
  refine ⟨hx, rfl, ⟨by omega, by decide⟩, by omega, c0, fun E1 e1 => ⟨by omega, fun E2 e2 => ?_⟩⟩
  have q2 : E2 = pRow E c (cGrow (E c) m) := by
    rw [e2, e1, pUp_row, pUp_row, pRow_row, pRow_at]
    rfl
  clear e1 e2
  subst q2
  simp only [pRow_at, g3, g9]
  refine ⟨by omega, by omega, by omega, by omega, fun z => ⟨by omega, by omega, by omega, by omega, fun a3 e3 => ⟨by omega, fun E4 e4 => ⟨by omega, by omega, fun E5 e5 => ⟨by omega, by omega, fun E6 e6 => ?_⟩⟩⟩⟩, fun z => ?_⟩
  · have q6 : E6 c (9 + r) = E c (9 + r) := by
      rw [e6, pUp_k (by omega), e5, pUp_k (by omega), e4, pUp_k (by omega), pRow_at, g9]
    rw [q6]
    refine ⟨by omega, fun E7 e7 => ?_⟩
    unfold cAdd at hQ
    rw [if_pos z] at hQ
    unfold cPut at hQ
    rw [g9, g1] at hQ
    have q5 : E5 c 1 = E c 1 + 1 := by rw [e5, pUp_k (by omega), e4, pUp_k (by omega), pRow_at, g1]
    rw [q5] at e6
    subst e7 e6 e5 e4 e3
    simp only [pUp_row, pRow_row, pRow_at]
    exact hQ
  · refine c_dropOldest hx hc hk c0 r0 r1 (by omega) (by rw [pRow_at, g9]; omega) (by rw [pRow_at, g9]; omega) ?_
    rw [pRow_row, pRow_at]
    refine vX0_addTuple_47 x r a b ?_
    rw [hc, hk, bb]
    have d9 : cDrop (cGrow (E c) m) r 1 (9 + r) = E c (9 + r) - 1 := by
      unfold cDrop rSh
      rw [if_neg (by omega), rUp_s, g9]
    have d1 : cDrop (cGrow (E c) m) r 1 1 = E c 1 + 1 := by
      unfold cDrop rSh
      rw [if_neg (by omega), rUp_n (by omega), g1]
    simp only [pRow_at, d9]
    refine ⟨by omega, hx, by omega, trivial, by omega, by omega, by omega, by omega, fun a1 e1 => ⟨c0, by omega, fun E2 e2 => ⟨by omega, by omega, fun E3 e3 => ⟨by omega, by omega, by omega, fun E4 e4 => ?_⟩⟩⟩⟩
    have q4 : E4 c (9 + r) = E c (9 + r) - 1 := by
      rw [e4, pUp_k (by omega), e3, pUp_k (by omega), e2, pUp_k (by omega), pRow_at, d9]
    have q3 : E3 c 1 = E c 1 + 1 := by rw [e3, pUp_k (by omega), e2, pUp_k (by omega), pRow_at, d1]
    rw [q4]
    refine ⟨by omega, fun E5 e5 => ?_⟩
    unfold cAdd at hQ
    rw [if_neg z] at hQ
    unfold cPut at hQ
    rw [d9, d1] at hQ
    rw [q3] at e4
    subst e5 e4 e3 e2 e1
    simp only [pUp_row, pRow_row, pRow_at]
    exact hQ
end C
