/-! acts keep what the cells of a core are -/
theorem cinv_idx {c : Int → Int} {r i : Int} (h : CInv c) (r0 : 0 ≤ r) (r1 : r < 3) (i0 : 0 ≤ i) (i1 : i ≤ 2) : CInv (cIdx c r i) := by
  obtain ⟨h1, h2, h3, h4, h5, h6⟩ := h
  unfold cIdx
  have o : ∀ k, (k < 6 ∨ 9 ≤ k) → rUp c (6 + r) i k = c k := fun k hk => rUp_n (by omega)
  have o0 := o 0 (by decide)
  have o1 := o 1 (by decide)
  have o2 := o 2 (by decide)
  refine ⟨by omega, by omega, by omega, fun s s0 s1 => ?_, fun p p0 p1 => ?_, fun s j s0 s1 j0 j1 => ?_⟩
  · have q := h4 s s0 s1
    rw [o (3 + s) (by omega), o (9 + s) (by omega)]
    refine ⟨q.1, ?_, q.2.2⟩
    by_cases e : s = r
    · rw [e, rUp_s]; omega
    · rw [rUp_n (by omega)]; exact q.2.1
  · rw [o (12 + 6 * p) (by omega), o (13 + 6 * p) (by omega), o (14 + 6 * p) (by omega), o (15 + 6 * p) (by omega), o (16 + 6 * p) (by omega), o (17 + 6 * p) (by omega), o1]
    exact h5 p p0 (by omega)
  · have e9 := o (9 + s) (by omega)
    rw [o (36 + 27 * s + 3 * j) (by omega), o (37 + 27 * s + 3 * j) (by omega), o (38 + 27 * s + 3 * j) (by omega), o (38 + 27 * s + 3 * (j + 1)) (by omega), o1, e9]
    exact h6 s j s0 s1 j0 (by omega)
theorem cinv_wset {c : Int → Int} {r w : Int} (h : CInv c) (r0 : 0 ≤ r) (r1 : r < 3) (w0 : 1 ≤ w) (w1 : w ≤ 9) (w2 : c (9 + r) ≤ w) : CInv (rUp c (3 + r) w) := by
  obtain ⟨h1, h2, h3, h4, h5, h6⟩ := h
  have o : ∀ k, (k < 3 ∨ 6 ≤ k) → rUp c (3 + r) w k = c k := fun k hk => rUp_n (by omega)
  have o0 := o 0 (by decide)
  have o1 := o 1 (by decide)
  have o2 := o 2 (by decide)
  refine ⟨by omega, by omega, by omega, fun s s0 s1 => ?_, fun p p0 p1 => ?_, fun s j s0 s1 j0 j1 => ?_⟩
  · have q := h4 s s0 s1
    rw [o (6 + s) (by omega), o (9 + s) (by omega)]
    by_cases e : s = r
    · rw [e, rUp_s]; rw [e] at q; omega
    · rw [rUp_n (by omega)]; exact q
  · rw [o (12 + 6 * p) (by omega), o (13 + 6 * p) (by omega), o (14 + 6 * p) (by omega), o (15 + 6 * p) (by omega), o (16 + 6 * p) (by omega), o (17 + 6 * p) (by omega), o1]
    exact h5 p p0 (by omega)
  · have e9 := o (9 + s) (by omega)
    rw [o (36 + 27 * s + 3 * j) (by omega), o (37 + 27 * s + 3 * j) (by omega), o (38 + 27 * s + 3 * j) (by omega), o (38 + 27 * s + 3 * (j + 1)) (by omega), o1, e9]
    exact h6 s j s0 s1 j0 (by omega)
theorem cDrop_lo {c : Int → Int} {r m k : Int} (r0 : 0 ≤ r) (hk : k < 36) (hn : k ≠ 9 + r) : cDrop c r m k = c k := by
  unfold cDrop rSh
  rw [if_neg (by omega), rUp_n hn]
theorem cDrop_9 {c : Int → Int} {r m : Int} (r0 : 0 ≤ r) (r1 : r < 3) : cDrop c r m (9 + r) = c (9 + r) - m := by
  unfold cDrop rSh
  rw [if_neg (by omega), rUp_s]
theorem cDrop_in {c : Int → Int} {r m k : Int} (r0 : 0 ≤ r) (r1 : r < 3) (m0 : 0 ≤ m) (k0 : 36 + 27 * r ≤ k) (k1 : k < 36 + 27 * r + 3 * (c (9 + r) - m)) : cDrop c r m k = c (k + 3 * m) := by
  unfold cDrop rSh
  rw [if_pos (by omega), rUp_n (by omega), Int.mul_comm m 3]
theorem cDrop_out {c : Int → Int} {r m k : Int} (r0 : 0 ≤ r) (r1 : r < 3) (k0 : 36 ≤ k) (k1 : k < 36 + 27 * r ∨ 36 + 27 * r + 3 * (c (9 + r) - m) ≤ k) : cDrop c r m k = c k := by
  unfold cDrop rSh
  rw [if_neg (by omega), rUp_n (by omega)]
theorem cinv_drop {c : Int → Int} {r m : Int} (h : CInv c) (r0 : 0 ≤ r) (r1 : r < 3) (m0 : 0 ≤ m) (m1 : m ≤ c (9 + r)) : CInv (cDrop c r m) := by
  obtain ⟨h1, h2, h3, h4, h5, h6⟩ := h
  have b := h4 r r0 r1
  have o : ∀ k, k < 36 → k ≠ 9 + r → cDrop c r m k = c k := fun k a b => cDrop_lo r0 a b
  have o0 := o 0 (by decide) (by omega)
  have o1 := o 1 (by decide) (by omega)
  have o2 := o 2 (by decide) (by omega)
  have o9 := cDrop_9 (c := c) (m := m) r0 r1
  refine ⟨by omega, by omega, by omega, fun s s0 s1 => ?_, fun p p0 p1 => ?_, fun s j s0 s1 j0 j1 => ?_⟩
  · have q := h4 s s0 s1
    rw [o (3 + s) (by omega) (by omega), o (6 + s) (by omega) (by omega)]
    refine ⟨q.1, q.2.1, ?_⟩
    by_cases e : s = r
    · rw [e, o9]; rw [e] at q; omega
    · rw [o (9 + s) (by omega) (by omega)]; exact q.2.2
  · rw [o (12 + 6 * p) (by omega) (by omega), o (13 + 6 * p) (by omega) (by omega), o (14 + 6 * p) (by omega) (by omega), o (15 + 6 * p) (by omega) (by omega), o (16 + 6 * p) (by omega) (by omega), o (17 + 6 * p) (by omega) (by omega), o1]
    exact h5 p p0 (by omega)
  · rw [o1]
    by_cases e : s = r
    · subst e
      rw [o9] at j1
      have q := h6 s (j + m) s0 s1 (by omega) (by omega)
      rw [cDrop_in r0 r1 m0 (by omega) (by omega), cDrop_in r0 r1 m0 (by omega) (by omega), cDrop_in r0 r1 m0 (by omega) (by omega), o9]
      rw [show 36 + 27 * s + 3 * j + 3 * m = 36 + 27 * s + 3 * (j + m) by omega, show 37 + 27 * s + 3 * j + 3 * m = 37 + 27 * s + 3 * (j + m) by omega, show 38 + 27 * s + 3 * j + 3 * m = 38 + 27 * s + 3 * (j + m) by omega]
      refine ⟨q.1, q.2.1, q.2.2.1, fun z => ?_⟩
      rw [cDrop_in r0 r1 m0 (by omega) (by omega), show 38 + 27 * s + 3 * (j + 1) + 3 * m = 38 + 27 * s + 3 * (j + m + 1) by omega]
      exact q.2.2.2 (by omega)
    · have e9 := o (9 + s) (by omega) (by omega)
      rw [e9] at j1 ⊢
      have bs := h4 s s0 s1
      have f : ∀ k, 36 + 27 * s ≤ k → k < 36 + 27 * s + 27 → cDrop c r m k = c k := fun k a b => cDrop_out r0 r1 (by omega) (by omega)
      rw [f (36 + 27 * s + 3 * j) (by omega) (by omega), f (37 + 27 * s + 3 * j) (by omega) (by omega), f (38 + 27 * s + 3 * j) (by omega) (by omega)]
      have q := h6 s j s0 s1 j0 j1
      refine ⟨q.1, q.2.1, q.2.2.1, fun z => ?_⟩
      rw [f (38 + 27 * s + 3 * (j + 1)) (by omega) (by omega)]
      exact q.2.2.2 z
theorem cWin_eq {c : Int → Int} {r w : Int} (r0 : 0 ≤ r) (r1 : r < 3) (h0 : c (9 + r) ≤ 9) : cWin c r w = rUp (cDrop c r (max 0 (c (9 + r) - w))) (3 + r) w := by
  unfold cWin cDrop
  rw [rUp_n (show (9 : Int) + r ≠ 3 + r by omega)]
  funext k
  unfold rSh rUp
  dsimp only
  by_cases e : k = 3 + r
  · rw [if_neg (by omega), if_neg (by omega), if_pos e, if_pos e]
  · rw [if_neg e, if_neg e]
    by_cases e2 : 36 + r * 9 * 3 ≤ k ∧ k < 36 + r * 9 * 3 + (c (9 + r) - max 0 (c (9 + r) - w)) * 3
    · rw [if_pos e2, if_pos e2, if_neg (by omega), if_neg (by omega), if_neg (by omega)]
    · rw [if_neg e2, if_neg e2]
theorem cinv_win {c : Int → Int} {r w : Int} (h : CInv c) (r0 : 0 ≤ r) (r1 : r < 3) (w0 : 1 ≤ w) (w1 : w ≤ 9) : CInv (cWin c r w) := by
  have b := h.2.2.2.1 r r0 r1
  rw [cWin_eq r0 r1 (by omega)]
  refine cinv_wset (cinv_drop h r0 r1 (by omega) (by omega)) r0 r1 w0 w1 ?_
  rw [cDrop_9 r0 r1]
  omega
theorem cStrike_hi {c : Int → Int} {o k : Int} (hk : 12 + 6 * (c 0 - 1) ≤ k) (h0 : 1 ≤ c 0) : cStrike c o k = c k := by
  unfold cStrike rSh
  rw [if_neg (by omega), rUp_n (by omega)]
theorem cStrike_lo {c : Int → Int} {o k : Int} (hk : k < 12 + 6 * o) (h0 : k ≠ 0) : cStrike c o k = c k := by
  unfold cStrike rSh
  rw [if_neg (by omega), rUp_n h0]
theorem cStrike_in {c : Int → Int} {o k : Int} (o0 : 0 ≤ o) (k0 : 12 + 6 * o ≤ k) (k1 : k < 12 + 6 * (c 0 - 1)) : cStrike c o k = c (k + 6) := by
  unfold cStrike rSh
  rw [if_pos (by omega), rUp_n (by omega)]
theorem cStrike_0 {c : Int → Int} {o : Int} (o0 : 0 ≤ o) : cStrike c o 0 = c 0 - 1 := by
  unfold cStrike rSh
  rw [if_neg (by omega), rUp_s]
theorem cinv_strike {c : Int → Int} {o : Int} (h : CInv c) (o0 : 0 ≤ o) (o1 : o < c 0) : CInv (cStrike c o) := by
  obtain ⟨h1, h2, h3, h4, h5, h6⟩ := h
  have q0 := cStrike_0 (c := c) o0
  have f : ∀ k, 1 ≤ k → (k < 12 ∨ 36 ≤ k) → cStrike c o k = c k := fun k a b => by
    by_cases e : k < 12
    · exact cStrike_lo (by omega) (by omega)
    · exact cStrike_hi (by omega) (by omega)
  have q1 := f 1 (by decide) (by decide)
  have q2 := f 2 (by decide) (by decide)
  refine ⟨by omega, by omega, by omega, fun s s0 s1 => ?_, fun p p0 p1 => ?_, fun s j s0 s1 j0 j1 => ?_⟩
  · rw [f (3 + s) (by omega) (by omega), f (6 + s) (by omega) (by omega), f (9 + s) (by omega) (by omega)]
    exact h4 s s0 s1
  · rw [q1]
    by_cases e : o ≤ p
    · rw [cStrike_in o0 (by omega) (by omega), cStrike_in o0 (by omega) (by omega), cStrike_in o0 (by omega) (by omega), cStrike_in o0 (by omega) (by omega), cStrike_in o0 (by omega) (by omega), cStrike_in o0 (by omega) (by omega)]
      have q := h5 (p + 1) (by omega) (by omega)
      rw [show 12 + 6 * p + 6 = 12 + 6 * (p + 1) by omega, show 13 + 6 * p + 6 = 13 + 6 * (p + 1) by omega, show 14 + 6 * p + 6 = 14 + 6 * (p + 1) by omega, show 15 + 6 * p + 6 = 15 + 6 * (p + 1) by omega, show 16 + 6 * p + 6 = 16 + 6 * (p + 1) by omega, show 17 + 6 * p + 6 = 17 + 6 * (p + 1) by omega]
      exact q
    · rw [cStrike_lo (by omega) (by omega), cStrike_lo (by omega) (by omega), cStrike_lo (by omega) (by omega), cStrike_lo (by omega) (by omega), cStrike_lo (by omega) (by omega), cStrike_lo (by omega) (by omega)]
      exact h5 p p0 (by omega)
  · have e9 := f (9 + s) (by omega) (by omega)
    rw [f (36 + 27 * s + 3 * j) (by omega) (by omega), f (37 + 27 * s + 3 * j) (by omega) (by omega), f (38 + 27 * s + 3 * j) (by omega) (by omega), f (38 + 27 * s + 3 * (j + 1)) (by omega) (by omega), q1, e9]
    exact h6 s j s0 s1 j0 (by omega)
theorem cTell_out {c : Int → Int} {f r d t q k : Int} (h : 1 ≤ k) (hk : k < 12 + 6 * c 0 ∨ 18 + 6 * c 0 ≤ k) : cTell c f r d t q k = c k := by
  unfold cTell
  rw [rUp_n (by omega), rUp_n (by omega), rUp_n (by omega), rUp_n (by omega), rUp_n (by omega), rUp_n (by omega), rUp_n (by omega)]
theorem cinv_tell {c : Int → Int} {f r d t q : Int} (h : CInv c) (o1 : c 0 < 4) (r0 : 0 ≤ r) (r1 : r < 3) (d0 : 0 ≤ d) (d1 : d < 2) (t0 : 0 ≤ t) (t1 : t < 3) (hq : (f = 0 ∧ t ≠ r ∧ 0 ≤ q ∧ q < 2) ∨ (f = 1 ∧ 0 ≤ q ∧ q < 10)) : CInv (cTell c f r d t q) := by
  obtain ⟨h1, h2, h3, h4, h5, h6⟩ := h
  have o : ∀ k, 1 ≤ k → (k < 12 + 6 * c 0 ∨ 18 + 6 * c 0 ≤ k) → cTell c f r d t q k = c k := fun k a b => cTell_out a b
  have q0 : cTell c f r d t q 0 = c 0 + 1 := rUp_s
  have q1 := o 1 (by decide) (by omega)
  have q2 := o 2 (by decide) (by omega)
  refine ⟨by omega, by omega, by omega, fun s s0 s1 => ?_, fun p p0 p1 => ?_, fun s j s0 s1 j0 j1 => ?_⟩
  · rw [o (3 + s) (by omega) (by omega), o (6 + s) (by omega) (by omega), o (9 + s) (by omega) (by omega)]
    exact h4 s s0 s1
  · rw [q1]
    by_cases e : p = c 0
    · have a0 : cTell c f r d t q (12 + 6 * p) = f := by
        unfold cTell
        rw [rUp_n (by omega), rUp_n (by omega), rUp_n (by omega), rUp_n (by omega), rUp_n (by omega), rUp_n (by omega), show 12 + c 0 * 6 = 12 + 6 * p by omega, rUp_s]
      have a1 : cTell c f r d t q (13 + 6 * p) = r := by
        unfold cTell
        rw [rUp_n (by omega), rUp_n (by omega), rUp_n (by omega), rUp_n (by omega), rUp_n (by omega), show 12 + c 0 * 6 + 1 = 13 + 6 * p by omega, rUp_s]
      have a2 : cTell c f r d t q (14 + 6 * p) = d := by
        unfold cTell
        rw [rUp_n (by omega), rUp_n (by omega), rUp_n (by omega), rUp_n (by omega), show 12 + c 0 * 6 + 2 = 14 + 6 * p by omega, rUp_s]
      have a3 : cTell c f r d t q (15 + 6 * p) = t := by
        unfold cTell
        rw [rUp_n (by omega), rUp_n (by omega), rUp_n (by omega), show 12 + c 0 * 6 + 3 = 15 + 6 * p by omega, rUp_s]
      have a4 : cTell c f r d t q (16 + 6 * p) = q := by
        unfold cTell
        rw [rUp_n (by omega), rUp_n (by omega), show 12 + c 0 * 6 + 4 = 16 + 6 * p by omega, rUp_s]
      have a5 : cTell c f r d t q (17 + 6 * p) = 0 := by
        unfold cTell
        rw [rUp_n (by omega), show 12 + c 0 * 6 + 5 = 17 + 6 * p by omega, rUp_s]
      rw [a0, a1, a2, a3, a4, a5]
      omega
    · rw [o (12 + 6 * p) (by omega) (by omega), o (13 + 6 * p) (by omega) (by omega), o (14 + 6 * p) (by omega) (by omega), o (15 + 6 * p) (by omega) (by omega), o (16 + 6 * p) (by omega) (by omega), o (17 + 6 * p) (by omega) (by omega)]
      exact h5 p p0 (by omega)
  · have e9 := o (9 + s) (by omega) (by omega)
    rw [o (36 + 27 * s + 3 * j) (by omega) (by omega), o (37 + 27 * s + 3 * j) (by omega) (by omega), o (38 + 27 * s + 3 * j) (by omega) (by omega), o (38 + 27 * s + 3 * (j + 1)) (by omega) (by omega), q1, e9]
    exact h6 s j s0 s1 j0 (by omega)
/-! a tuple comes -/
theorem cinv_grow {c t : Int → Int} {m : Int} (h : CInv c) (s1 : c 1 < 999) (m0 : 0 ≤ m) (m1 : m ≤ 20000) (ht : ∀ o, 0 ≤ o → o < c 0 → -20000 * (c 1 + 1) ≤ t o ∧ t o ≤ 20000 * (c 1 + 1)) : CInv (cGrow (cTick c t) m) := by
  obtain ⟨h1, h2, h3, h4, h5, h6⟩ := h
  have o : ∀ k, (k < 12 ∨ 36 ≤ k) → k ≠ 1 → k ≠ 2 → cGrow (cTick c t) m k = c k := fun k a b d => by
    unfold cGrow cTick
    rw [rUp_n d, rUp_n b]
    rw [if_neg (by omega)]
  have q0 := o 0 (by decide) (by decide) (by decide)
  have q1 : cGrow (cTick c t) m 1 = c 1 + 1 := by
    unfold cGrow cTick
    rw [rUp_n (by decide), rUp_s, if_neg (by omega)]
  have q2 : cGrow (cTick c t) m 2 = c 2 + m := by
    unfold cGrow cTick
    rw [rUp_s, if_neg (by omega)]
  refine ⟨by omega, by omega, by omega, fun s s0 s1 => ?_, fun p p0 p1 => ?_, fun s j s0 s1 j0 j1 => ?_⟩
  · rw [o (3 + s) (by omega) (by omega) (by omega), o (6 + s) (by omega) (by omega) (by omega), o (9 + s) (by omega) (by omega) (by omega)]
    exact h4 s s0 s1
  · have f : ∀ i, 0 ≤ i → i < 5 → cGrow (cTick c t) m (12 + i + 6 * p) = c (12 + i + 6 * p) := fun i i0 i1 => by
      unfold cGrow cTick
      rw [rUp_n (by omega), rUp_n (by omega), if_neg (by omega)]
    have g : cGrow (cTick c t) m (17 + 6 * p) = t p := by
      unfold cGrow cTick
      rw [rUp_n (by omega), rUp_n (by omega), if_pos (by omega)]
      congr 1
      omega
    have q := h5 p p0 (by omega)
    have g' := ht p p0 (by omega)
    rw [show cGrow (cTick c t) m (12 + 6 * p) = c (12 + 6 * p) from f 0 (by decide) (by decide), show cGrow (cTick c t) m (13 + 6 * p) = c (13 + 6 * p) from f 1 (by decide) (by decide), show cGrow (cTick c t) m (14 + 6 * p) = c (14 + 6 * p) from f 2 (by decide) (by decide), show cGrow (cTick c t) m (15 + 6 * p) = c (15 + 6 * p) from f 3 (by decide) (by decide), show cGrow (cTick c t) m (16 + 6 * p) = c (16 + 6 * p) from f 4 (by decide) (by decide), g, q1]
    exact ⟨q.1, q.2.1, g', q.2.2.2⟩
  · have e9 := o (9 + s) (by omega) (by omega) (by omega)
    rw [e9] at j1 ⊢
    rw [o (36 + 27 * s + 3 * j) (by omega) (by omega) (by omega), o (37 + 27 * s + 3 * j) (by omega) (by omega) (by omega), o (38 + 27 * s + 3 * j) (by omega) (by omega) (by omega), o (38 + 27 * s + 3 * (j + 1)) (by omega) (by omega) (by omega), q1]
    have q := h6 s j s0 s1 j0 j1
    exact ⟨q.1, q.2.1, by omega, q.2.2.2⟩
theorem cinv_put {c : Int → Int} {r a b : Int} (h : CInv c) (r0 : 0 ≤ r) (r1 : r < 3) (a0 : 0 ≤ a) (a1 : a < 10) (b0 : 0 ≤ b) (b1 : b < 10) (s0 : 1 ≤ c 1) (hw : c (9 + r) < c (3 + r)) (hs : ∀ i, 0 ≤ i → i < c (9 + r) → c (38 + 27 * r + 3 * i) < c 1) : CInv (cPut c r a b) := by
  obtain ⟨h1, h2, h3, h4, h5, h6⟩ := h
  have br := h4 r r0 r1
  have o : ∀ k, k ≠ 9 + r → (k < 36 + 27 * r + 3 * c (9 + r) ∨ 39 + 27 * r + 3 * c (9 + r) ≤ k) → cPut c r a b k = c k := fun k e q => by
    unfold cPut
    rw [rUp_n e, rUp_n (by omega), rUp_n (by omega), rUp_n (by omega)]
  have q0 := o 0 (by omega) (by omega)
  have q1 := o 1 (by omega) (by omega)
  have q2 := o 2 (by omega) (by omega)
  have q9 : cPut c r a b (9 + r) = c (9 + r) + 1 := rUp_s
  have t0 : cPut c r a b (36 + 27 * r + 3 * c (9 + r)) = a := by
    unfold cPut
    rw [rUp_n (by omega), rUp_n (by omega), rUp_n (by omega), show 36 + (r * 9 + c (9 + r)) * 3 = 36 + 27 * r + 3 * c (9 + r) by omega, rUp_s]
  have t1 : cPut c r a b (37 + 27 * r + 3 * c (9 + r)) = b := by
    unfold cPut
    rw [rUp_n (by omega), rUp_n (by omega), show 36 + (r * 9 + c (9 + r)) * 3 + 1 = 37 + 27 * r + 3 * c (9 + r) by omega, rUp_s]
  have t2 : cPut c r a b (38 + 27 * r + 3 * c (9 + r)) = c 1 := by
    unfold cPut
    rw [rUp_n (by omega), show 36 + (r * 9 + c (9 + r)) * 3 + 2 = 38 + 27 * r + 3 * c (9 + r) by omega, rUp_s]
  refine ⟨by omega, by omega, by omega, fun s s0 s1 => ?_, fun p p0 p1 => ?_, fun s j s0 s1 j0 j1 => ?_⟩
  · have q := h4 s s0 s1
    rw [o (3 + s) (by omega) (by omega), o (6 + s) (by omega) (by omega)]
    refine ⟨q.1, q.2.1, ?_⟩
    by_cases e : s = r
    · rw [e, q9]; omega
    · rw [o (9 + s) (by omega) (by omega)]; exact q.2.2
  · rw [o (12 + 6 * p) (by omega) (by omega), o (13 + 6 * p) (by omega) (by omega), o (14 + 6 * p) (by omega) (by omega), o (15 + 6 * p) (by omega) (by omega), o (16 + 6 * p) (by omega) (by omega), o (17 + 6 * p) (by omega) (by omega), q1]
    exact h5 p p0 (by omega)
  · rw [q1]
    by_cases e : s = r
    · subst e
      rw [q9] at j1 ⊢
      by_cases e2 : j = c (9 + s)
      · rw [e2, t0, t1, t2]
        refine ⟨⟨a0, a1⟩, ⟨b0, b1⟩, by omega, fun z => absurd z (by omega)⟩
      · have q := h6 s j s0 s1 j0 (by omega)
        rw [o (36 + 27 * s + 3 * j) (by omega) (by omega), o (37 + 27 * s + 3 * j) (by omega) (by omega), o (38 + 27 * s + 3 * j) (by omega) (by omega)]
        refine ⟨q.1, q.2.1, q.2.2.1, fun _ => ?_⟩
        by_cases e3 : j + 1 = c (9 + s)
        · rw [e3, t2]
          exact hs j j0 (by omega)
        · rw [o (38 + 27 * s + 3 * (j + 1)) (by omega) (by omega)]
          exact q.2.2.2 (by omega)
    · have bs := h4 s s0 s1
      have e9 := o (9 + s) (by omega) (by omega)
      rw [e9] at j1 ⊢
      have q := h6 s j s0 s1 j0 j1
      rw [o (36 + 27 * s + 3 * j) (by omega) (by omega), o (37 + 27 * s + 3 * j) (by omega) (by omega), o (38 + 27 * s + 3 * j) (by omega) (by omega)]
      refine ⟨q.1, q.2.1, q.2.2.1, fun z => ?_⟩
      rw [o (38 + 27 * s + 3 * (j + 1)) (by omega) (by omega)]
      exact q.2.2.2 z
theorem cinv_add {c t : Int → Int} {r a b m : Int} (h : CInv c) (r0 : 0 ≤ r) (r1 : r < 3) (a0 : 0 ≤ a) (a1 : a < 10) (b0 : 0 ≤ b) (b1 : b < 10) (s1 : c 1 < 999) (m0 : 0 ≤ m) (m1 : m ≤ 20000) (ht : ∀ o, 0 ≤ o → o < c 0 → -20000 * (c 1 + 1) ≤ t o ∧ t o ≤ 20000 * (c 1 + 1)) : CInv (cAdd (cTick c t) r a b m) := by
  have g := cinv_grow h s1 m0 m1 ht
  obtain ⟨h1, h2, h3, h4, h5, h6⟩ := h
  have br := h4 r r0 r1
  have o : ∀ k, (k < 12 ∨ 36 ≤ k) → cTick c t k = c k := fun k a => by
    unfold cTick
    rw [if_neg (by omega)]
  have o2 : ∀ k, (k < 12 ∨ 36 ≤ k) → k ≠ 1 → k ≠ 2 → cGrow (cTick c t) m k = c k := fun k a b d => by
    unfold cGrow
    rw [rUp_n d, rUp_n b, o k a]
  have q1 : cGrow (cTick c t) m 1 = c 1 + 1 := by
    unfold cGrow
    rw [rUp_n (by decide), rUp_s, o 1 (by decide)]
  have q9 := o2 (9 + r) (by omega) (by omega) (by omega)
  have q3 := o2 (3 + r) (by omega) (by omega) (by omega)
  unfold cAdd
  rw [o (9 + r) (by omega), o (3 + r) (by omega)]
  by_cases e : c (9 + r) < c (3 + r)
  · rw [if_pos e]
    refine cinv_put g r0 r1 a0 a1 b0 b1 (by omega) (by omega) fun i i0 i1 => ?_
    rw [q9] at i1
    rw [o2 (38 + 27 * r + 3 * i) (by omega) (by omega) (by omega), q1]
    have := h6 r i r0 r1 i0 i1
    omega
  · rw [if_neg e]
    have d := cinv_drop g r0 r1 (show (0 : Int) ≤ 1 by decide) (by omega)
    have d9 := cDrop_9 (c := cGrow (cTick c t) m) (m := 1) r0 r1
    have d1 := cDrop_lo (c := cGrow (cTick c t) m) (m := 1) (k := 1) r0 (by decide) (by omega)
    have d3 := cDrop_lo (c := cGrow (cTick c t) m) (m := 1) (k := 3 + r) r0 (by omega) (by omega)
    refine cinv_put d r0 r1 a0 a1 b0 b1 (by omega) (by omega) fun i i0 i1 => ?_
    rw [d9, q9] at i1
    rw [cDrop_in r0 r1 (by decide) (by omega) (by omega), o2 (38 + 27 * r + 3 * i + 3 * 1) (by omega) (by omega) (by omega), d1, q1]
    have := h6 r (i + 1) r0 r1 (by omega) (by omega)
    rw [show 38 + 27 * r + 3 * i + 3 * 1 = 38 + 27 * r + 3 * (i + 1) by omega]
    omega
theorem cz_tick {f t : Int → Int} (o0 : 0 ≤ f 0) (o1 : f 0 ≤ 4) : cz (cTick f t) = cTick (cz f) t := by
  funext k
  unfold cTick
  rw [cz_in (f := f) (k := 0) (by decide) (by decide)]
  by_cases e : 12 ≤ k ∧ k < 12 + f 0 * 6 ∧ (k - 12) % 6 = 5
  · rw [if_pos e, cz_in (by omega) (by omega), if_pos e]
  · rw [if_neg e]
    unfold cz
    dsimp only
    rw [if_neg e]
theorem cz_put {f : Int → Int} {r a b : Int} (r0 : 0 ≤ r) (r1 : r < 3) (h0 : 0 ≤ f (9 + r)) (h1 : f (9 + r) < 9) : cz (cPut f r a b) = cPut (cz f) r a b := by
  unfold cPut
  rw [cz_up (by omega) (by omega), cz_up (by omega) (by omega), cz_up (by omega) (by omega), cz_up (by omega) (by omega), cz_in (k := 9 + r) (by omega) (by omega), cz_in (k := 1) (by omega) (by omega)]
theorem cz_grow {f : Int → Int} {m : Int} : cz (cGrow f m) = cGrow (cz f) m := by
  unfold cGrow
  rw [cz_up (by decide) (by decide), cz_up (by decide) (by decide), cz_in (by decide) (by decide), cz_in (by decide) (by decide)]
theorem cz_add {f : Int → Int} {r a b m : Int} (r0 : 0 ≤ r) (r1 : r < 3) (h0 : 0 ≤ f (9 + r)) (h1 : f (9 + r) ≤ f (3 + r)) (h3 : f (3 + r) ≤ 9) (h4 : 1 ≤ f (3 + r)) : cz (cAdd f r a b m) = cAdd (cz f) r a b m := by
  have g9 : cGrow f m (9 + r) = f (9 + r) := by unfold cGrow; rw [rUp_n (by omega), rUp_n (by omega)]
  unfold cAdd
  rw [cz_in (k := 9 + r) (by omega) (by omega), cz_in (k := 3 + r) (by omega) (by omega)]
  by_cases e : f (9 + r) < f (3 + r)
  · rw [if_pos e, if_pos e, cz_put r0 r1 (by omega) (by omega), cz_grow]
  · rw [if_neg e, if_neg e, cz_put r0 r1 (by rw [cDrop_9 r0 r1]; omega) (by rw [cDrop_9 r0 r1]; omega), cz_drop r0 r1 (by decide) (by omega), cz_grow]
theorem cinv_acts {c : Int → Int} (h : CInv c) : (∀ o, CInv (sStrike c o).2) ∧ (∀ r w, CInv (sWindow c r w).2) ∧ ∀ r i, CInv (sIndex c r i).2 := by
  refine ⟨fun o => ?_, fun r w => ?_, fun r i => ?_⟩
  · unfold sStrike
    split
    · rename_i z
      exact cinv_strike h z.1 z.2
    · exact h
  · unfold sWindow
    split
    · rename_i z
      split
      · exact h
      · exact cinv_win h z.1.1 z.1.2 z.2.1 z.2.2
    · exact h
  · unfold sIndex
    split
    · rename_i z
      split
      · exact h
      · exact cinv_idx h z.1.1 z.1.2 z.2.1 z.2.2
    · exact h
