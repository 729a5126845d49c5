/-! the pair ask -/
def maIn (A fc : Int → Int → Int) (r : Int) : Nat → Int → (Int → Int) × Int → (Int → Int) × Int
  | 0, _, p => p
  | k + 1, t, p => if A r t = 0 then maIn A fc r k (t + 1) p else maIn A fc r k (t + 1) (rUp p.1 (fc r t) (p.1 (fc r t) + 1), max p.2 (p.1 (fc r t) + 1))
def maS (A fc : Int → Int → Int) (c : Int → Int) : (Int → Int) × Int := maIn A fc 2 (c (9 + 2)).toNat 0 (maIn A fc 1 (c (9 + 1)).toNat 0 (maIn A fc 0 (c (9 + 0)).toNat 0 (fun _ => 0, 0)))
def niIn (A : Int → Int → Int) (r : Int) : Nat → Int → Prop
  | 0, _ => False
  | k + 1, t => A r t ≠ 0 ∨ niIn A r k (t + 1)
/-- the counts lie between 0 and so many -/
def mOk (p : (Int → Int) × Int) (b : Int) : Prop := (∀ v, 0 ≤ p.1 v ∧ p.1 v ≤ b) ∧ 0 ≤ p.2 ∧ p.2 ≤ b
theorem ma_ok {A fc : Int → Int → Int} {r : Int} (k : Nat) : ∀ t p b, mOk p b → mOk (maIn A fc r k t p) (b + k) := by
  induction k with
  | zero => intro t p b h; unfold maIn; rw [show b + ((0 : Nat) : Int) = b by omega]; exact h
  | succ k ih =>
    intro t p b h
    unfold maIn
    rw [show b + ((k + 1 : Nat) : Int) = b + 1 + k by omega]
    split
    · exact ih _ _ _ ⟨fun v => by have := h.1 v; omega, by have := h.2; omega⟩
    · have q := h.1 (fc r t)
      have q2 := h.2
      refine ih _ _ _ ⟨fun v => ?_, by dsimp only; omega⟩
      dsimp only
      unfold rUp
      have := h.1 v
      split <;> omega
theorem ma_pos {A fc : Int → Int → Int} {r : Int} (k : Nat) : ∀ t p b, mOk p b → (0 < (maIn A fc r k t p).2 ↔ 0 < p.2 ∨ niIn A r k t) := by
  induction k with
  | zero => intro t p b h; unfold maIn niIn; simp
  | succ k ih =>
    intro t p b h
    unfold maIn niIn
    have q := h.1 (fc r t)
    have q2 := h.2
    by_cases e : A r t = 0
    · rw [if_pos e, ih (t + 1) p b h]
      constructor
      · rintro (a | a)
        · exact Or.inl a
        · exact Or.inr (Or.inr a)
      · rintro (a | a | a)
        · exact Or.inl a
        · exact absurd e a
        · exact Or.inr a
    · have h2 : mOk (rUp p.1 (fc r t) (p.1 (fc r t) + 1), max p.2 (p.1 (fc r t) + 1)) (b + 1) := by
        refine ⟨fun v => ?_, by dsimp only; omega⟩
        dsimp only
        unfold rUp
        have := h.1 v
        split <;> omega
      rw [if_neg e, ih (t + 1) _ (b + 1) h2]
      constructor
      · intro _
        exact Or.inr (Or.inl e)
      · intro _
        exact Or.inl (by dsimp only; omega)
theorem mz_ok : mOk (fun _ => 0, 0) 0 := ⟨fun _ => by dsimp only; omega, by dsimp only; omega⟩
theorem ms_pos {A fc fc' : Int → Int → Int} {c : Int → Int} : 0 < (maS A fc c).2 ↔ 0 < (maS A fc' c).2 := by
  unfold maS
  have a := fun f => ma_ok (A := A) (fc := f) (r := 0) (c (9 + 0)).toNat 0 _ _ mz_ok
  have b := fun f => ma_ok (A := A) (fc := f) (r := 1) (c (9 + 1)).toNat 0 _ _ (a f)
  rw [ma_pos _ _ _ _ (b fc), ma_pos _ _ _ _ (b fc'), ma_pos _ _ _ _ (a fc), ma_pos _ _ _ _ (a fc'), ma_pos _ _ _ _ mz_ok, ma_pos _ _ _ _ mz_ok]
theorem ms_le {A fc : Int → Int → Int} {c : Int → Int} (hc : ∀ r, 0 ≤ r → r < 3 → 0 ≤ c (9 + r) ∧ c (9 + r) ≤ 9) : 0 ≤ (maS A fc c).2 ∧ (maS A fc c).2 ≤ 27 := by
  unfold maS
  have a := ma_ok (A := A) (fc := fc) (r := 0) (c (9 + 0)).toNat 0 _ _ mz_ok
  have b := ma_ok (A := A) (fc := fc) (r := 1) (c (9 + 1)).toNat 0 _ _ a
  have d := ma_ok (A := A) (fc := fc) (r := 2) (c (9 + 2)).toNat 0 _ _ b
  have h0 := hc 0 (by decide) (by decide)
  have h1 := hc 1 (by decide) (by decide)
  have h2 := hc 2 (by decide) (by decide)
  have := d.2
  omega
section M
variable {l : Launch} {G : pG} {bg : Nat × Nat} {n : Nat} {K : Int → Nat × Nat} {F : Int → Int → Int} {Q : Option pV → pM → Prop}
theorem zero_step {E : Int → Int → Int} {a i hi : Int} {g : Int → Int} (hg : ∀ v, 0 ≤ v → v < i → E a v = 0) (i0 : i < hi) : ∀ v, 0 ≤ v → v < i + 1 → pUp E a i 0 a v = 0 := by
  intro v v0 v1
  by_cases e : v = i
  · rw [e, pUp_s]
  · rw [pUp_k e]; exact hg v v0 (by omega)
theorem fct_rng {c : Int → Int} {r t f : Int} (hC : CInv c) (r0 : 0 ≤ r) (r1 : r < 3) (t0 : 0 ≤ t) (t1 : t < c (9 + r)) (f0 : 0 ≤ f) (f1 : f ≤ 2) : 0 ≤ fct c r t f ∧ fct c r t f < 10 := by
  have q := hC.2.2.2.2.2 r t r0 r1 t0 t1
  unfold fct
  split
  · omega
  · rcases (show f = 1 ∨ f = 2 by omega) with e | e <;> subst e
    · rw [show 36 + (r * 9 + t) * 3 + (1 - 1) = 36 + 27 * r + 3 * t by omega]; exact q.1
    · rw [show 36 + (r * 9 + t) * 3 + (2 - 1) = 37 + 27 * r + 3 * t by omega]; exact q.2.1
theorem c_mostAlike_37 {r f : Int} (hK : KS K) (hF : FS F) (r0 : 0 ≤ r) (r1 : r < 3) (f0 : 0 ≤ f) (f1 : f ≤ 2) {E0 : Int → Int → Int} (hs : SeenOk (cz (E0 3)) (E0 5) (E0 6) (F 1 4)) (m : Nat) : ∀ (t b : Int) (p : (Int → Int) × Int) (g : Int → Int), t + m = E0 3 (9 + r) → 0 ≤ t → mOk p b → b + m ≤ 1000 → (∀ v, 0 ≤ v → v < 10 → g v = p.1 v) → (∀ g', (∀ v, 0 ≤ v → v < 10 → g' v = (maIn (agI (cz (E0 3)) (E0 5) (E0 6) (F 1 4)) (fun r t => fct (cz (E0 3)) r t f) r m t p).1 v) → PW l G 3 mX11_mostAlike bg 28 [(0, (2, 0)), (1, (0, f)), (2, (2, 51)), (3, (0, (maIn (agI (cz (E0 3)) (E0 5) (E0 6) (F 1 4)) (fun r t => fct (cz (E0 3)) r t f) r m t p).2)), (4, (0, r + 1))] [] (n, K, F, pRow E0 51 g') Q) → PW l G 3 mX11_mostAlike bg 37 [(0, (2, 0)), (1, (0, f)), (2, (2, 51)), (3, (0, p.2)), (4, (0, r)), (5, (0, t))] [] (n, K, F, pRow E0 51 g) Q := by
  have b9 := hs.2.2.2.2.2.1 r r0 r1
  rw [cz_in (k := 9 + r) (by omega) (by omega), cz_in (k := 3 + r) (by omega) (by omega)] at b9
  have e3 : ∀ g, pRow E0 51 g 3 = E0 3 := fun g => pRow_ne (by decide)
  have e5 : ∀ g, pRow E0 51 g 5 = E0 5 := fun g => pRow_ne (by decide)
  have e6 : ∀ g, pRow E0 51 g 6 = E0 6 := fun g => pRow_ne (by decide)
  induction m with
  | zero =>
    intro t b p g e t0 hp hb hg q
    refine vX11_mostAlike_37 0 f 51 p.2 r t ?_
    simp only [hF.f0_0, hF.f1_0, hF.f2_0, hK.k0, hK.k1, hK.k2, hK.k3, e3]
    exact ⟨trivial, trivial, trivial, by omega, trivial, by omega, fun _ => ⟨by omega, q g hg⟩, fun z => absurd (by omega) z⟩
  | succ m ih =>
    intro t b p g e t0 hp hb hg q
    refine vX11_mostAlike_37 0 f 51 p.2 r t ?_
    simp only [hF.f0_0, hF.f1_0, hF.f2_0, hK.k0, hK.k1, hK.k2, hK.k3, e3]
    refine ⟨trivial, trivial, trivial, by omega, trivial, by omega, fun z => absurd z (by omega), fun _ => c_agrees hK hF (by rw [e3, e5, e6]; exact hs) r0 r1 t0 (by omega) ?_⟩
    rw [e3, e5, e6]
    unfold maIn at q
    refine vX11_mostAlike_65 0 f 51 p.2 r t _ ?_
    simp only [hF.f0_0, hF.f1_0, hK.k0, hK.k1, hK.k2]
    refine ⟨fun z => ⟨by omega, ih (t + 1) b p g (by omega) (by omega) hp (by omega) hg ?_⟩, fun z => ⟨trivial, trivial, trivial, c_fact hK hF r0 r1 t0 (by omega) f0 f1 ?_⟩⟩
    · simp only [if_pos z] at q
      exact q
    · rw [e3]
      simp only [if_neg z] at q
      have fr := fct_rng hs.2.2 r0 r1 t0 (show t < cz (E0 3) (9 + r) by rw [cz_in (by omega) (by omega)]; omega) f0 f1
      refine vX11_mostAlike_83 0 f 51 p.2 r t _ ?_
      generalize ev : fct (cz (E0 3)) r t f = v at fr
      have gv := hg v fr.1 fr.2
      have pv := hp.1 v
      have p2 := hp.2
      simp only [hK.k51, pRow_at, gv]
      refine ⟨trivial, by omega, by omega, by decide, fun E1 e1 => ⟨by omega, ?_⟩⟩
      have q1 : E1 = pRow E0 51 (rUp g v (p.1 v + 1)) := by rw [e1, pUp_row, pRow_row, pRow_at]
      rw [q1]
      refine ih (t + 1) (b + 1) (rUp p.1 v (p.1 v + 1), max p.2 (p.1 v + 1)) _ (by omega) (by omega) ⟨fun w => ?_, by dsimp only; omega⟩ (by omega) (fun w w0 w1 => ?_) ?_
      · dsimp only
        unfold rUp
        have := hp.1 w
        split <;> omega
      · dsimp only
        unfold rUp
        split
        · rfl
        · exact hg w w0 w1
      · rw [ev] at q
        exact q
theorem c_mostAlike_7 {f : Int} (hK : KS K) (m : Nat) : ∀ (i : Int) (E0 : Int → Int → Int) (g : Int → Int), i + m = 10 → 0 ≤ i → (∀ v, 0 ≤ v → v < i → g v = 0) → (∀ g', (∀ v, 0 ≤ v → v < 10 → g' v = 0) → PW l G 3 mX11_mostAlike bg 28 [(0, (2, 0)), (1, (0, f)), (2, (2, 51)), (3, (0, 0)), (4, (0, 0))] [] (n, K, F, pRow E0 51 g') Q) → PW l G 3 mX11_mostAlike bg 7 [(0, (2, 0)), (1, (0, f)), (2, (2, 51)), (3, (0, i))] [] (n, K, F, pRow E0 51 g) Q := by
  induction m with
  | zero =>
    intro i E0 g e i0 hg q
    refine vX11_mostAlike_7 0 f 51 i ⟨fun _ => q g fun v v0 v1 => hg v v0 (by omega), fun z => absurd (by omega) z⟩
  | succ m ih =>
    intro i E0 g e i0 hg q
    refine vX11_mostAlike_7 0 f 51 i ⟨fun z => absurd z (by omega), fun _ => ?_⟩
    simp only [hK.k51]
    refine ⟨by decide, trivial, by omega, fun E1 e1 => ⟨by omega, ?_⟩⟩
    rw [e1, pUp_row, pRow_row, pRow_at]
    refine ih (i + 1) E0 _ (by omega) (by omega) (fun v v0 v1 => ?_) q
    unfold rUp
    split
    · rfl
    · exact hg v v0 (by omega)
theorem c_mostAlike {f : Int} {E : Int → Int → Int} (hK : KS K) (hF : FS F) (f0 : 0 ≤ f) (f1 : f ≤ 2) (hs : SeenOk (cz (E 3)) (E 5) (E 6) (F 1 4)) (hQ : ∀ g, Q (some (0, (maS (agI (cz (E 3)) (E 5) (E 6) (F 1 4)) (fun r t => fct (cz (E 3)) r t f) (cz (E 3))).2)) (n, K, F, pRow E 51 g)) : PC l G 3 mX11_mostAlike bg [(2, 0), (0, f)] (n, K, F, E) Q := by
  have b9 : ∀ r, 0 ≤ r → r < 3 → cz (E 3) (9 + r) = E 3 (9 + r) ∧ 0 ≤ E 3 (9 + r) ∧ E 3 (9 + r) ≤ 9 := fun r a b => by
    have q := hs.2.2.2.2.2.1 r a b
    rw [cz_in (k := 9 + r) (by omega) (by omega)] at q ⊢
    exact ⟨rfl, by omega, by omega⟩
  refine vX11_mostAlike_0 0 f ⟨by rw [hK.k0], ?_⟩
  rw [hF.f0_15, ← pRow_self (E := E) (a := 51)]
  refine c_mostAlike_7 hK 10 0 E (E 51) (by decide) (by decide) (fun v a b => absurd b (by omega)) fun g hg => ?_
  refine vX11_mostAlike_28 0 f 51 0 0 ⟨fun z => absurd z (by decide), fun _ => ?_⟩
  have x0 := b9 0 (by decide) (by decide)
  have x1 := b9 1 (by decide) (by decide)
  have x2 := b9 2 (by decide) (by decide)
  have o0 := ma_ok (A := agI (cz (E 3)) (E 5) (E 6) (F 1 4)) (fc := fun r t => fct (cz (E 3)) r t f) (r := 0) (cz (E 3) (9 + 0)).toNat 0 _ _ mz_ok
  have o1 := ma_ok (A := agI (cz (E 3)) (E 5) (E 6) (F 1 4)) (fc := fun r t => fct (cz (E 3)) r t f) (r := 1) (cz (E 3) (9 + 1)).toNat 0 _ _ o0
  refine c_mostAlike_37 (r := 0) hK hF (by decide) (by decide) f0 f1 hs (cz (E 3) (9 + 0)).toNat 0 0 (fun _ => 0, 0) g (by omega) (by decide) mz_ok (by omega) hg fun g1 h1 => ?_
  refine vX11_mostAlike_28 0 f 51 _ (0 + 1) ⟨fun z => absurd z (by decide), fun _ => ?_⟩
  refine c_mostAlike_37 (r := 1) hK hF (by decide) (by decide) f0 f1 hs (cz (E 3) (9 + 1)).toNat 0 _ _ g1 (by omega) (by decide) o0 (by omega) h1 fun g2 h2 => ?_
  refine vX11_mostAlike_28 0 f 51 _ (1 + 1) ⟨fun z => absurd z (by decide), fun _ => ?_⟩
  refine c_mostAlike_37 (r := 2) hK hF (by decide) (by decide) f0 f1 hs (cz (E 3) (9 + 2)).toNat 0 _ _ g2 (by omega) (by decide) o1 (by omega) h2 fun g3 h3 => ?_
  exact vX11_mostAlike_28 0 f 51 _ (2 + 1) ⟨fun _ => hQ g3, fun z => absurd (by decide) z⟩
theorem r_mostAlike_33 {r f s : Int} {f1' f2' : Int → Int} (hK : KS K) (hF : FS F) (r0 : 0 ≤ r) (r1 : r < 3) (f0 : 0 ≤ f) (f1 : f ≤ 2) {E0 : Int → Int → Int} (hs : SeenOk (cz (sh6 (E0 68))) f1' f2' s) (hr : SeenR (E0 68) f1' f2' s) (m : Nat) : ∀ (t b : Int) (p : (Int → Int) × Int) (g : Int → Int), t + m = E0 68 (15 + r) → 0 ≤ t → mOk p b → b + m ≤ 1000 → (∀ v, 0 ≤ v → v < 10 → g v = p.1 v) → (∀ g', (∀ v, 0 ≤ v → v < 10 → g' v = (maIn (agI (cz (sh6 (E0 68))) f1' f2' s) (fun r t => fct (cz (sh6 (E0 68))) r t f) r m t p).1 v) → PW l G 3 mX12_mostAlike bg 25 [(0, (2, 66)), (1, (0, f)), (2, (0, (maIn (agI (cz (sh6 (E0 68))) f1' f2' s) (fun r t => fct (cz (sh6 (E0 68))) r t f) r m t p).2)), (3, (0, r + 1))] [] (n, K, F, pRow E0 100 g') Q) → PW l G 3 mX12_mostAlike bg 33 [(0, (2, 66)), (1, (0, f)), (2, (0, p.2)), (3, (0, r)), (4, (0, t))] [] (n, K, F, pRow E0 100 g) Q := by
  have b9 := hs.2.2.2.2.2.1 r r0 r1
  rw [czs_at (k := 9 + r) (j := 15 + r) (by omega) (by omega) (by omega), czs_at (k := 3 + r) (j := 9 + r) (by omega) (by omega) (by omega)] at b9
  have e3 : ∀ g, pRow E0 100 g 68 = E0 68 := fun g => pRow_ne (by decide)
  induction m with
  | zero =>
    intro t b p g e t0 hp hb hg q
    refine vX12_mostAlike_33 66 f p.2 r t ?_
    simp only [hF.f66_3, hK.k66, hK.k68, e3]
    exact ⟨trivial, by omega, trivial, by omega, fun _ => ⟨by omega, q g hg⟩, fun z => absurd (by omega) z⟩
  | succ m ih =>
    intro t b p g e t0 hp hb hg q
    refine vX12_mostAlike_33 66 f p.2 r t ?_
    simp only [hF.f66_3, hK.k66, hK.k68, e3]
    refine ⟨trivial, by omega, trivial, by omega, fun z => absurd z (by omega), fun _ => r_canBeIt hK hF (by rw [e3]; exact hs) (by rw [e3]; exact hr) r0 r1 t0 (by omega) ?_⟩
    rw [e3]
    unfold maIn at q
    refine vX12_mostAlike_54 66 f p.2 r t _ ?_
    simp only [hK.k66]
    refine ⟨fun z => ⟨by omega, ih (t + 1) b p g (by omega) (by omega) hp (by omega) hg ?_⟩, fun z => ⟨trivial, r_factOf hK hF r0 r1 t0 (by omega) f0 f1 ?_⟩⟩
    · simp only [if_pos z] at q
      exact q
    · rw [e3]
      simp only [if_neg z] at q
      have fr := fct_rng hs.2.2 r0 r1 t0 (show t < cz (sh6 (E0 68)) (9 + r) by rw [czs_at (j := 15 + r) (by omega) (by omega) (by omega)]; omega) f0 f1
      refine vX12_mostAlike_65 66 f p.2 r t _ ?_
      generalize ev : fct (cz (sh6 (E0 68))) r t f = v at fr
      have gv := hg v fr.1 fr.2
      have pv := hp.1 v
      have p2 := hp.2
      simp only [hF.f66_64, hK.k66, hK.k100, pRow_at, gv]
      refine ⟨trivial, trivial, by omega, by omega, by decide, fun E1 e1 => ?_⟩
      have q1 : E1 = pRow E0 100 (rUp g v (p.1 v + 1)) := by rw [e1, pUp_row, pRow_row, pRow_at]
      rw [q1]
      have go := ih (t + 1) (b + 1) (rUp p.1 v (p.1 v + 1), max p.2 (p.1 v + 1)) (rUp g v (p.1 v + 1)) (by omega) (by omega) ⟨fun w => by
          dsimp only
          unfold rUp
          have := hp.1 w
          split <;> omega, by dsimp only; omega⟩ (by omega) (fun w w0 w1 => by
          dsimp only
          unfold rUp
          split
          · rfl
          · exact hg w w0 w1) (by rw [ev] at q; exact q)
      dsimp only at go
      refine ⟨fun y => ⟨by omega, ?_⟩, fun y => ⟨by omega, ?_⟩⟩
      · rw [show max p.2 (p.1 v + 1) = p.2 by omega] at go
        exact go
      · rw [show max p.2 (p.1 v + 1) = p.1 v + 1 by omega] at go
        exact go
theorem r_mostAlike_2 {f : Int} (hK : KS K) (hF : FS F) (m : Nat) : ∀ (i : Int) (E0 : Int → Int → Int) (g : Int → Int), i + m = 10 → 0 ≤ i → (∀ v, 0 ≤ v → v < i → g v = 0) → (∀ g', (∀ v, 0 ≤ v → v < 10 → g' v = 0) → PW l G 3 mX12_mostAlike bg 25 [(0, (2, 66)), (1, (0, f)), (2, (0, 0)), (3, (0, 0))] [] (n, K, F, pRow E0 100 g') Q) → PW l G 3 mX12_mostAlike bg 2 [(0, (2, 66)), (1, (0, f)), (2, (0, i))] [] (n, K, F, pRow E0 100 g) Q := by
  induction m with
  | zero =>
    intro i E0 g e i0 hg q
    refine vX12_mostAlike_2 66 f i ⟨fun _ => q g fun v v0 v1 => hg v v0 (by omega), fun z => absurd (by omega) z⟩
  | succ m ih =>
    intro i E0 g e i0 hg q
    refine vX12_mostAlike_2 66 f i ⟨fun z => absurd z (by omega), fun _ => ?_⟩
    simp only [hF.f66_64, hK.k66, hK.k100]
    refine ⟨trivial, by decide, trivial, by omega, fun E1 e1 => ⟨by omega, ?_⟩⟩
    rw [e1, pUp_row, pRow_row, pRow_at]
    refine ih (i + 1) E0 _ (by omega) (by omega) (fun v v0 v1 => ?_) q
    unfold rUp
    split
    · rfl
    · exact hg v v0 (by omega)
theorem r_mostAlike {f s : Int} {f1' f2' : Int → Int} {E : Int → Int → Int} (hK : KS K) (hF : FS F) (f0 : 0 ≤ f) (f1 : f ≤ 2) (hs : SeenOk (cz (sh6 (E 68))) f1' f2' s) (hr : SeenR (E 68) f1' f2' s) (hQ : ∀ g, Q (some (0, (maS (agI (cz (sh6 (E 68))) f1' f2' s) (fun r t => fct (cz (sh6 (E 68))) r t f) (cz (sh6 (E 68)))).2)) (n, K, F, pRow E 100 g)) : PC l G 3 mX12_mostAlike bg [(2, 66), (0, f)] (n, K, F, E) Q := by
  have b9 : ∀ r, 0 ≤ r → r < 3 → cz (sh6 (E 68)) (9 + r) = E 68 (15 + r) ∧ 0 ≤ E 68 (15 + r) ∧ E 68 (15 + r) ≤ 9 := fun r a b => by
    have q := hs.2.2.2.2.2.1 r a b
    rw [czs_at (k := 9 + r) (j := 15 + r) (by omega) (by omega) (by omega)] at q ⊢
    exact ⟨rfl, by omega, by omega⟩
  refine vX12_mostAlike_0 66 f ?_
  rw [← pRow_self (E := E) (a := 100)]
  refine r_mostAlike_2 hK hF 10 0 E (E 100) (by decide) (by decide) (fun v a b => absurd b (by omega)) fun g hg => ?_
  refine vX12_mostAlike_25 66 f 0 0 ⟨fun z => absurd z (by decide), fun _ => ?_⟩
  have x0 := b9 0 (by decide) (by decide)
  have x1 := b9 1 (by decide) (by decide)
  have x2 := b9 2 (by decide) (by decide)
  have o0 := ma_ok (A := agI (cz (sh6 (E 68))) f1' f2' s) (fc := fun r t => fct (cz (sh6 (E 68))) r t f) (r := 0) (cz (sh6 (E 68)) (9 + 0)).toNat 0 _ _ mz_ok
  have o1 := ma_ok (A := agI (cz (sh6 (E 68))) f1' f2' s) (fc := fun r t => fct (cz (sh6 (E 68))) r t f) (r := 1) (cz (sh6 (E 68)) (9 + 1)).toNat 0 _ _ o0
  refine r_mostAlike_33 (r := 0) hK hF (by decide) (by decide) f0 f1 hs hr (cz (sh6 (E 68)) (9 + 0)).toNat 0 0 (fun _ => 0, 0) g (by omega) (by decide) mz_ok (by omega) hg fun g1 h1 => ?_
  refine vX12_mostAlike_25 66 f _ (0 + 1) ⟨fun z => absurd z (by decide), fun _ => ?_⟩
  refine r_mostAlike_33 (r := 1) hK hF (by decide) (by decide) f0 f1 hs hr (cz (sh6 (E 68)) (9 + 1)).toNat 0 _ _ g1 (by omega) (by decide) o0 (by omega) h1 fun g2 h2 => ?_
  refine vX12_mostAlike_25 66 f _ (1 + 1) ⟨fun z => absurd z (by decide), fun _ => ?_⟩
  refine r_mostAlike_33 (r := 2) hK hF (by decide) (by decide) f0 f1 hs hr (cz (sh6 (E 68)) (9 + 2)).toNat 0 _ _ g2 (by omega) (by decide) o1 (by omega) h2 fun g3 h3 => ?_
  exact vX12_mostAlike_25 66 f _ (2 + 1) ⟨fun _ => hQ g3, fun z => absurd (by decide) z⟩
end M
