/-! LAWS in the reference -/
/-- only what is reckoned has changed -/
def F3 (F F' : Int → Int → Int) : Prop := FS F' ∧ ∀ a k, ¬ (a = 66 ∧ (k = 38 ∨ k = 39 ∨ k = 40)) → F' a k = F a k
theorem F3.refl {F : Int → Int → Int} (h : FS F) : F3 F F := ⟨h, fun _ _ _ => rfl⟩
theorem F3.trans {F F' F'' : Int → Int → Int} (h : F3 F F') (h' : F3 F' F'') : F3 F F'' := ⟨h'.1, fun a k q => (h'.2 a k q).trans (h.2 a k q)⟩
theorem F3.up {F F' : Int → Int → Int} {k v : Int} (h : F3 F F') (hk : k = 38 ∨ k = 39 ∨ k = 40) : F3 F (pUp F' 66 k v) := by
  refine ⟨?_, fun a j q => ?_⟩
  · rcases hk with e | e | e <;> subst e <;> exact h.1.up (by decide +kernel)
  · unfold pUp
    rw [if_neg (fun z => q ⟨z.1, by rw [z.2]; exact hk⟩)]
    exact h.2 a j q
section R
variable {l : Launch} {G : pG} {bg : Nat × Nat} {n : Nat} {K : Int → Nat × Nat} {F E : Int → Int → Int} {Q : Option pV → pM → Prop}
/-- the law that lies at F 66 34, clause c -/
theorem r_isSo {g : Int → Int} {L : tLaw} {c : Nat} {W : Int → Int} (hK : KS K) (hF : FS F) (h20 : F 66 20 = 0) (l0 : 0 ≤ F 66 34) (l1 : F 66 34 + 900 ≤ 5535) (hg : ∀ j, 0 ≤ j → j < 900 → E 68 (F 66 34 + j) = g j) (hT : TxR g L) (n12 : L.1 ≤ 12) (hc : c < L.1) (hok : ClOk (L.2 c)) (he : EnvR 0 E W) (hw : WOk W 9)
    (hQ : ∀ F' E' s, F3 F F' → (∀ r, r ≠ 86 → E' r = E r) → ((L.2 c).1 = 0 → (∃ v, clS (L.2 c) W = some v ∧ s = 1 ∧ F' 66 40 = v) ∨ (clS (L.2 c) W = none ∧ s = 0)) → ((L.2 c).1 = 1 → (tso (L.2 c).2.1 W ∧ s = 1) ∨ (¬ tso (L.2 c).2.1 W ∧ s = 0)) → Q (some (0, s)) (n, K, F', E')) :
    PC l G 3 mX12_isSo bg [(2, 66), (0, F 66 34 + 2 + 8 * (c : Int))] (n, K, F, E) Q := by
  obtain ⟨t1, t2⟩ := hT
  obtain ⟨u1, u2, u3⟩ := t2 c hc
  have g0 : E 68 (F 66 34 + 2 + 8 * (c : Int)) = (L.2 c).1 := by rw [← u1, ← hg _ (by omega) (by omega)]; congr 1; omega
  have gx : ∀ i, 0 ≤ i → i < 8 → E 68 (F 66 34 + 2 + 8 * (c : Int) + i) = g (2 + 8 * (c : Int) + i) := fun i i0 i1 => by rw [← hg _ (by omega) (by omega)]; congr 1; omega
  have cr : ∀ (F' E' : Int → Int → Int) a b, F3 F F' → (∀ r, r ≠ 86 → E' r = E r) → 0 ≤ a → b ≤ 400 → CodeR 0 F' E' (gOp g) (gAr g) a b := fun F' E' a b f3 r' a0 b1 => by
    refine ⟨⟨a0, b1⟩, Or.inl ⟨rfl, (f3.2 66 20 (by omega)).trans h20, ?_, fun k k0 k1 => ?_⟩⟩
    · rw [f3.2 66 34 (by omega)]; omega
    · rw [f3.2 66 34 (by omega), r' 68 (by decide)]
      unfold gOp gAr
      rw [← hg _ (by omega) (by omega), ← hg _ (by omega) (by omega)]
      exact ⟨by congr 1; omega, by congr 1; omega⟩
  -- what is behind the test, where it is so
  have rest : ∀ F' E', F3 F F' → (∀ r, r ≠ 86 → E' r = E r) → tso (L.2 c).2.1 W → (L.2 c).1 = 0 → PC l G 2 mX12_reckonAll (0, 0) [(2, 66), (0, g (2 + 8 * (c : Int) + 3)), (0, g (2 + 8 * (c : Int) + 4))] (n, K, F', E') (fun r μ => PW l G 3 mX12_isSo bg 88 [(0, (2, 66))] (r.toList ++ []) μ Q) := fun F' E' f3 r' so z => by
    obtain ⟨v1, v2⟩ := u3 z
    refine r_reckonAll (o := 0) hK f3.1 v2 (by decide) (cr F' E' _ _ f3 r' v1.1 v1.2) (he.keep r') hw fun E2 u v r2 hv => ?_
    refine vX12_isSo_88 66 ⟨by rw [hK.k66], fun F1 e1 => ?_⟩
    have f38 : pUp (pUp F' 66 38 u) 66 39 v 66 38 = u := by rw [pUp_k (by decide), pUp_s]
    have f39 : pUp (pUp F' 66 38 u) 66 39 v 66 39 = v := pUp_s
    have f40 : F1 66 40 = v := by rw [e1, pUp_s, f39]
    have fF : F3 F F1 := by rw [e1]; exact ((f3.up (by decide)).up (by decide)).up (by decide)
    have r12 : ∀ r, r ≠ 86 → E2 r = E r := fun r hr => by rw [r2 r hr, r' r hr]
    have cs : clS (L.2 c) W = (L.2 c).2.2 W := by
      unfold clS
      rw [if_pos so, if_pos z]
    rw [f38]
    refine ⟨fun y => hQ F1 E2 0 fF r12 (fun _ => Or.inr ⟨?_, rfl⟩) (fun y => by omega), fun y => hQ F1 E2 1 fF r12 (fun _ => Or.inl ⟨v, ?_, rfl, f40⟩) (fun y => by omega)⟩
    · rcases hv with hv | hv
      · omega
      · rw [cs]; exact hv.1
    · rcases hv with hv | hv
      · rw [cs]; exact hv.1
      · omega
  have notso : ∀ F' E', F3 F F' → (∀ r, r ≠ 86 → E' r = E r) → ¬ tso (L.2 c).2.1 W → Q (some (0, 0)) (n, K, F', E') := fun F' E' f3 r' so => by
    refine hQ F' E' 0 f3 r' (fun _ => Or.inr ⟨?_, rfl⟩) (fun _ => Or.inr ⟨so, rfl⟩)
    unfold clS
    rw [if_neg so]
  refine vX12_isSo_0 66 _ ?_
  rw [hF.f66_3, g0, gx 3 (by decide) (by decide), gx 4 (by decide) (by decide), gx 5 (by decide) (by decide), gx 6 (by decide) (by decide)]
  simp only [hK.k66, hK.k68]
  refine ⟨trivial, by omega, trivial, by omega, by omega, by omega, fun z => ⟨by omega, ?_⟩, fun z => ?_⟩
  · have so : tso (L.2 c).2.1 W := by
      unfold TsR at u2
      cases q : (L.2 c).2.1 with
      | none => trivial
      | some f => rw [q] at u2; have := u2.1; omega
    refine ⟨fun y => hQ F E 1 (F3.refl hF) (fun _ _ => rfl) (fun w => absurd w y) (fun _ => Or.inl ⟨so, rfl⟩), fun y => ⟨by omega, by omega, by omega, by omega, rest F E (F3.refl hF) (fun _ _ => rfl) so y⟩⟩
  · cases q : (L.2 c).2.1 with
    | none =>
      rw [q] at u2
      exact absurd (show g (2 + 8 * (c : Int) + 6) ≤ g (2 + 8 * (c : Int) + 5) from u2) z
    | some f =>
      have tf := hok.2.1 f q
      rw [q] at u2
      obtain ⟨v1, v2⟩ := u2
      refine r_reckonAll (o := 0) hK hF v2 (by decide) (cr F E _ _ (F3.refl hF) (fun _ _ => rfl) v1.1 v1.2.2) he hw fun E2 u v r2 hv => ?_
      have fF : F3 F (pUp (pUp F 66 38 u) 66 39 v) := ((F3.refl hF).up (by decide)).up (by decide)
      have f38 : pUp (pUp F 66 38 u) 66 39 v 66 38 = u := by rw [pUp_k (by decide), pUp_s]
      have f39 : pUp (pUp F 66 38 u) 66 39 v 66 39 = v := pUp_s
      refine vX12_isSo_41 66 _ ?_
      rw [fF.1.f66_3, f38, f39, r2 68 (by decide), g0, gx 3 (by decide) (by decide), gx 4 (by decide) (by decide)]
      simp only [hK.k66, hK.k68]
      refine ⟨trivial, fun y => notso _ _ fF r2 ?_, fun y => ⟨fun x => ?_, fun x => notso _ _ fF r2 ?_⟩⟩
      · rw [q]
        rcases hv with hv | hv
        · omega
        · show ¬ f W = some 1
          rw [hv.1]
          exact fun z => by cases z
      · have so : tso (L.2 c).2.1 W := by
          rw [q]
          rcases hv with hv | hv
          · have := tf W v hv.1
            show f W = some 1
            rw [hv.1, show v = 1 by omega]
          · omega
        refine ⟨trivial, by omega, fun w => hQ _ E2 1 fF r2 (fun w2 => absurd w2 w) (fun _ => Or.inl ⟨so, rfl⟩), fun w => ⟨by omega, by omega, by omega, by omega, rest _ E2 fF r2 so w⟩⟩
      · rw [q]
        rcases hv with hv | hv
        · show ¬ f W = some 1
          rw [hv.1, x]
          exact fun z => by cases z
        · omega
/-- what a head tells, clause by clause: costs -/
theorem r_tells_74c {g : Int → Int} {L : tLaw} {W : Int → Int} (hK : KS K) (n12 : L.1 ≤ 12) (hok : ∀ c, c < L.1 → ClOk (L.2 c)) (hT : TxR g L) (hw : WOk W 9) {s : Int} (m : Nat) : ∀ (c : Nat) (F E : Int → Int → Int), FS F → F 66 20 = 0 → 0 ≤ F 66 34 → F 66 34 + 900 ≤ 5535 → (∀ j, 0 ≤ j → j < 900 → E 68 (F 66 34 + j) = g j) → EnvR 0 E W → c + m = L.1 → (∀ F' E', F3 F F' → (∀ r, r ≠ 86 → E' r = E r) → Q (some (1, (lastS L W L.1).getD s)) (n, K, F', E')) → PW l G 4 mX12_tells bg 74 [(0, (2, 66)), (1, (0, 0)), (8, (1, (lastS L W c).getD s)), (10, (0, (c : Int)))] [] (n, K, F, E) Q := by
  induction m with
  | zero =>
    intro c F E hF h20 l0 l1 hg he e hQ
    have g1 : E 68 (F 66 34 + 1) = L.1 := by rw [hg 1 (by decide) (by decide)]; exact hT.1
    refine vX12_tells_74 66 0 _ c ?_
    simp only [hF.f66_3, hK.k66, hK.k68, g1]
    refine ⟨trivial, by omega, trivial, by omega, fun _ => ?_, fun z => absurd (by omega) z⟩
    have q := hQ F E (F3.refl hF) (fun _ _ => rfl)
    rw [show L.1 = c by omega] at q
    exact q
  | succ m ih =>
    intro c F E hF h20 l0 l1 hg he e hQ
    have g1 : E 68 (F 66 34 + 1) = L.1 := by rw [hg 1 (by decide) (by decide)]; exact hT.1
    have u1 := (hT.2 c (by omega)).1
    have g0 : E 68 (F 66 34 + 2 + 8 * (c : Int)) = (L.2 c).1 := by rw [← u1, ← hg _ (by omega) (by omega)]; congr 1; omega
    have step : ∀ F' E', F3 F F' → (∀ r, r ≠ 86 → E' r = E r) → PW l G 4 mX12_tells bg 74 [(0, (2, 66)), (1, (0, 0)), (8, (1, (lastS L W (c + 1)).getD s)), (10, (0, (c : Int) + 1))] [] (n, K, F', E') Q := fun F' E' f3 r' => by
      have e34 := f3.2 66 34 (by omega)
      refine ih (c + 1) F' E' f3.1 ((f3.2 66 20 (by omega)).trans h20) (by omega) (by omega) (fun j j0 j1 => ?_) (he.keep r') (by omega) (fun F2 E2 f2 r2 => hQ F2 E2 (f3.trans f2) (fun r hr => by rw [r2 r hr, r' r hr]))
      rw [e34, r' 68 (by decide)]
      exact hg j j0 j1
    refine vX12_tells_74 66 0 _ c ?_
    simp only [hF.f66_3, hK.k66, hK.k68, g1, g0]
    refine ⟨trivial, by omega, trivial, by omega, fun z => absurd z (by omega), fun _ => ⟨by omega, by omega, by omega, by omega, fun z => ⟨by omega, ?_⟩, fun z => ?_⟩⟩
    · have q := step F E (F3.refl hF) (fun _ _ => rfl)
      have cn : clS (L.2 c) W = none := by
        unfold clS
        rw [if_neg z]
        split <;> rfl
      rw [show lastS L W (c + 1) = lastS L W c from by show (match clS (L.2 c) W with | some v => some v | none => lastS L W c) = _; rw [cn]] at q
      exact q
    · refine r_isSo hK hF h20 l0 l1 hg hT n12 (by omega) (hok c (by omega)) he hw fun F' E' s' f3 r' hs _ => ?_
      refine vX12_tells_121 66 0 _ c s' ⟨fun y => ⟨by omega, ?_⟩, fun y => ⟨fun x => absurd rfl x, fun _ => ⟨by rw [hK.k66], by omega, ?_⟩⟩⟩
      · have q := step F' E' f3 r'
        rcases hs z with ⟨v, _, hs, _⟩ | ⟨cn, _⟩
        · omega
        · rw [show lastS L W (c + 1) = lastS L W c from by show (match clS (L.2 c) W with | some v => some v | none => lastS L W c) = _; rw [cn]] at q
          exact q
      · have q := step F' E' f3 r'
        rcases hs z with ⟨v, cs, _, hv⟩ | ⟨_, hs⟩
        · rw [show lastS L W (c + 1) = some v from by show (match clS (L.2 c) W with | some v => some v | none => lastS L W c) = _; rw [cs]] at q
          rw [hv]
          exact q
        · omega
/-- bars -/
theorem r_tells_74b {g : Int → Int} {L : tLaw} {W : Int → Int} (hK : KS K) (n12 : L.1 ≤ 12) (hok : ∀ c, c < L.1 → ClOk (L.2 c)) (hT : TxR g L) (hw : WOk W 9) (m : Nat) : ∀ (c : Nat) (F E : Int → Int → Int) (x : Int), FS F → F 66 20 = 0 → 0 ≤ F 66 34 → F 66 34 + 900 ≤ 5535 → (∀ j, 0 ≤ j → j < 900 → E 68 (F 66 34 + j) = g j) → EnvR 0 E W → c + m = L.1 → ((x = 1 ∧ bars L W) ∨ (x = 0 ∧ ∀ c', c' < c → ¬ ((L.2 c').1 = 1 ∧ tso (L.2 c').2.1 W))) → (∀ F' E', F3 F F' → (∀ r, r ≠ 86 → E' r = E r) → Q (some (1, bI (bars L W))) (n, K, F', E')) → PW l G 4 mX12_tells bg 74 [(0, (2, 66)), (1, (0, 1)), (8, (1, x)), (10, (0, (c : Int)))] [] (n, K, F, E) Q := by
  induction m with
  | zero =>
    intro c F E x hF h20 l0 l1 hg he e hx hQ
    have g1 : E 68 (F 66 34 + 1) = L.1 := by rw [hg 1 (by decide) (by decide)]; exact hT.1
    refine vX12_tells_74 66 1 _ c ?_
    simp only [hF.f66_3, hK.k66, hK.k68, g1]
    refine ⟨trivial, by omega, trivial, by omega, fun _ => ?_, fun z => absurd (by omega) z⟩
    have q := hQ F E (F3.refl hF) (fun _ _ => rfl)
    rcases hx with ⟨ex, hx⟩ | ⟨ex, hx⟩
    · rw [bI_of hx] at q
      rw [ex]; exact q
    · rw [bI_no (fun ⟨c', a, b⟩ => hx c' (by omega) b)] at q
      rw [ex]; exact q
  | succ m ih =>
    intro c F E x hF h20 l0 l1 hg he e hx hQ
    have g1 : E 68 (F 66 34 + 1) = L.1 := by rw [hg 1 (by decide) (by decide)]; exact hT.1
    have u1 := (hT.2 c (by omega)).1
    have g0 : E 68 (F 66 34 + 2 + 8 * (c : Int)) = (L.2 c).1 := by rw [← u1, ← hg _ (by omega) (by omega)]; congr 1; omega
    have step : ∀ F' E' y, F3 F F' → (∀ r, r ≠ 86 → E' r = E r) → ((y = 1 ∧ bars L W) ∨ (y = 0 ∧ ∀ c', c' < c + 1 → ¬ ((L.2 c').1 = 1 ∧ tso (L.2 c').2.1 W))) → PW l G 4 mX12_tells bg 74 [(0, (2, 66)), (1, (0, 1)), (8, (1, y)), (10, (0, (c : Int) + 1))] [] (n, K, F', E') Q := fun F' E' y f3 r' hy => by
      have e34 := f3.2 66 34 (by omega)
      refine ih (c + 1) F' E' y f3.1 ((f3.2 66 20 (by omega)).trans h20) (by omega) (by omega) (fun j j0 j1 => ?_) (he.keep r') (by omega) hy (fun F2 E2 f2 r2 => hQ F2 E2 (f3.trans f2) (fun r hr => by rw [r2 r hr, r' r hr]))
      rw [e34, r' 68 (by decide)]
      exact hg j j0 j1
    have more : (¬ ((L.2 c).1 = 1 ∧ tso (L.2 c).2.1 W)) → ((x = 1 ∧ bars L W) ∨ (x = 0 ∧ ∀ c', c' < c + 1 → ¬ ((L.2 c').1 = 1 ∧ tso (L.2 c').2.1 W))) := fun hn => hx.imp id (fun ⟨a, b⟩ => ⟨a, fun c' hc' => by
      by_cases q : c' = c
      · rw [q]; exact hn
      · exact b c' (by omega)⟩)
    refine vX12_tells_74 66 1 _ c ?_
    simp only [hF.f66_3, hK.k66, hK.k68, g1, g0]
    refine ⟨trivial, by omega, trivial, by omega, fun z => absurd z (by omega), fun _ => ⟨by omega, by omega, by omega, by omega, fun z => ⟨by omega, step F E x (F3.refl hF) (fun _ _ => rfl) (more (fun y => z y.1))⟩, fun z => ?_⟩⟩
    refine r_isSo hK hF h20 l0 l1 hg hT n12 (by omega) (hok c (by omega)) he hw fun F' E' s' f3 r' _ hs => ?_
    refine vX12_tells_121 66 1 _ c s' ⟨fun y => ⟨by omega, step F' E' x f3 r' (more (fun w => ?_))⟩, fun y => ⟨fun _ => ⟨by omega, step F' E' 1 f3 r' (Or.inl ⟨rfl, c, by omega, z, ?_⟩)⟩, fun x => absurd x (by decide)⟩⟩
    · rcases hs z with hs | hs
      · omega
      · exact hs.1 w.2
    · rcases hs z with hs | hs
      · exact hs.1
      · omega
/-- the law in force, as the reference has it -/
def LawF (g : Int → Int) (L : Option tLaw) : Prop := (L = none ∧ g 2 = -1) ∨ ∃ L', L = some L' ∧ (0 ≤ g 2 ∧ g 2 < 6) ∧ TxR (fun j => g (135 + 900 * g 2 + j)) L' ∧ L'.1 ≤ 12 ∧ ∀ c, c < L'.1 → ClOk (L'.2 c)
noncomputable def toldS (L : Option tLaw) (W : Int → Int) (s : Int) : Int := match L with
  | none => s
  | some L => (lastS L W L.1).getD s
theorem told_cost {L : Option tLaw} {W : Int → Int} {s : Int} (h0 : 0 ≤ s) (h1 : s ≤ 99) : pBnd (toldS L W s) 0 99 = costS L W s := by
  have pb : ∀ v : Int, pBnd v 0 99 = max 0 (min 99 v) := fun v => by
    unfold pBnd
    split
    · omega
    · split <;> omega
  unfold toldS costS
  cases L with
  | none => dsimp only; rw [pb]; omega
  | some L =>
    dsimp only
    rw [pb]
    cases lastS L W L.1 with
    | none => show max 0 (min 99 s) = s; omega
    | some v => rfl
def wSet (s : Int → Int) (o z t d : Int) : Int → Int := rUp (rUp (rUp (rUp s 1 o) 5 z) 6 t) 7 d
/-- only what is reckoned and where the law lies has changed -/
def F4 (F F' : Int → Int → Int) : Prop := FS F' ∧ ∀ a k, ¬ (a = 66 ∧ (k = 34 ∨ k = 38 ∨ k = 39 ∨ k = 40)) → F' a k = F a k
theorem F3.four {F F' : Int → Int → Int} {v : Int} (h : F3 (pUp F 66 34 v) F') : F4 F F' := ⟨h.1, fun a k q => by
  rw [h.2 a k (by omega)]
  unfold pUp
  rw [if_neg (by omega)]⟩
theorem r_tells {L : Option tLaw} {hd o z t d s : Int} {W : Int → Int} (hK : KS K) (hF : FS F) (h20 : F 66 20 = 0) (hh : hd = 0 ∨ (hd = 1 ∧ s = 0)) (hl : LawF (E 68) L) (hW : ∀ i, 1 ≤ i → i ≤ 9 → wSet (E 84) o z t d i = W (lix i)) (hw : WOk W 9)
    (hQ : ∀ F' E' v, F4 F F' → (∀ r, r ≠ 84 → r ≠ 86 → E' r = E r) → (hd = 0 → v = toldS L W s) → (hd = 1 → v = barS L W) → Q (some (1, v)) (n, K, F', E')) :
    PC l G 4 mX12_tells bg [(2, 66), (0, hd), (0, o), (0, z), (0, t), (0, d), (1, s)] (n, K, F, E) Q := by
  refine vX12_tells_0 66 hd o z t d s ?_
  simp only [hF.f66_3, hF.f66_35, hK.k66, hK.k68, hK.k84]
  rcases hl with ⟨eL, e2⟩ | ⟨L', eL, e2, hT, n12, hok⟩
  · refine ⟨trivial, trivial, by decide, fun y => absurd e2 y, fun _ => hQ F E s ⟨hF, fun _ _ _ => rfl⟩ (fun _ _ _ => rfl) (fun _ => by rw [eL]; rfl) (fun q => ?_)⟩
    rw [eL]
    show s = 0
    omega
  · refine ⟨trivial, trivial, by decide, fun y => ⟨by omega, by omega, fun F1 e1 => ⟨by decide, trivial, by decide, fun E2 q2 => ⟨by decide, fun E3 q3 => ⟨by decide, fun E4 q4 => ⟨by decide, fun E5 q5 => ?_⟩⟩⟩⟩⟩, fun y => absurd y (by omega)⟩
    have qE : E5 = pRow E 84 (wSet (E 84) o z t d) := by
      rw [q5, q4, q3, q2]
      simp only [pUp_row, pRow_row, pRow_at]
      rfl
    clear q2 q3 q4 q5
    subst qE
    subst e1
    have hF1 : FS (pUp F 66 34 (135 + 900 * E 68 2)) := hF.up (by decide +kernel)
    have f34 : pUp F 66 34 (135 + 900 * E 68 2) 66 34 = 135 + 900 * E 68 2 := pUp_s
    have f20 : pUp F 66 34 (135 + 900 * E 68 2) 66 20 = 0 := by rw [pUp_k (by decide)]; exact h20
    have hg : ∀ j, 0 ≤ j → j < 900 → pRow E 84 (wSet (E 84) o z t d) 68 (pUp F 66 34 (135 + 900 * E 68 2) 66 34 + j) = (fun j => E 68 (135 + 900 * E 68 2 + j)) j := fun j _ _ => by rw [f34, pRow_ne (by decide)]
    have he : EnvR 0 (pRow E 84 (wSet (E 84) o z t d)) W := Or.inl ⟨rfl, fun i i0 i1 => by rw [pRow_at]; exact hW i i0 i1⟩
    have r84 : ∀ E' : Int → Int → Int, (∀ r, r ≠ 86 → E' r = pRow E 84 (wSet (E 84) o z t d) r) → ∀ r, r ≠ 84 → r ≠ 86 → E' r = E r := fun E' r' r h1 h2 => by rw [r' r h2, pRow_ne h1]
    rcases hh with h | ⟨h, hs⟩
    · subst h
      refine r_tells_74c (s := s) hK n12 hok hT hw L'.1 0 _ _ hF1 f20 (by rw [f34]; omega) (by rw [f34]; omega) hg he (by omega) (fun F' E' f3 r' => ?_)
      exact hQ F' E' _ f3.four (r84 E' r') (fun _ => by rw [eL]; rfl) (fun q => absurd q (by decide))
    · subst h
      refine r_tells_74b hK n12 hok hT hw L'.1 0 _ _ s hF1 f20 (by rw [f34]; omega) (by rw [f34]; omega) hg he (by omega) (Or.inr ⟨hs, fun c' hc' => absurd hc' (by omega)⟩) (fun F' E' f3 r' => ?_)
      exact hQ F' E' _ f3.four (r84 E' r') (fun q => absurd q (by decide)) (fun _ => by rw [eL]; rfl)
/-- the words that the law sees of a tuple that is barred or not -/
theorem r_isBarred {L : Option tLaw} {r a b : Int} {W : Int → Int} (hK : KS K) (hF : FS F) (h20 : F 66 20 = 0) (s0 : 0 ≤ E 68 7) (s1 : E 68 7 ≤ 999) (hl : LawF (E 68) L) (hW : W 0 = -1 ∧ W 1 = -1 ∧ W 2 = r ∧ W 3 = a ∧ W 4 = b ∧ W 5 = -1 ∧ W 6 = -1 ∧ W 7 = E 68 5 ∧ W 8 = E 68 7 + 1) (hw : WOk W 9)
    (hQ : ∀ F' E', F4 F F' → (∀ r, r ≠ 84 → r ≠ 86 → E' r = E r) → Q (some (0, barS L W)) (n, K, F', E')) : PC l G 5 mX12_isBarred bg [(2, 66), (0, r), (0, a), (0, b)] (n, K, F, E) Q := by
  refine vX12_isBarred_0 66 r a b ?_
  simp only [hF.f66_3, hF.f66_35, hK.k66, hK.k68, hK.k84]
  refine ⟨trivial, by decide, trivial, by decide, fun E1 e1 => ⟨by decide, fun E2 e2 => ⟨by decide, fun E3 e3 => ⟨trivial, by decide, by omega, by decide, fun E4 e4 => ⟨by decide, by decide, fun E5 e5 => ?_⟩⟩⟩⟩⟩
  have q5 : E5 = pRow E 84 (rUp (rUp (rUp (rUp (rUp (E 84) 2 r) 3 a) 4 b) 8 (E 68 7 + 1)) 9 (E 68 5)) := by
    rw [e5, e4, e3, e2, e1]
    simp only [pUp_row, pRow_row, pRow_at]
  clear e1 e2 e3 e4 e5
  subst q5
  obtain ⟨w0, w1, w2, w3, w4, w5, w6, w7, w8⟩ := hW
  refine r_tells (W := W) hK hF h20 (Or.inr ⟨rfl, rfl⟩) (by rw [pRow_ne (by decide)]; exact hl) (fun i i0 i1 => ?_) hw fun F' E' v f4 r' _ hv => ?_
  · rw [pRow_at]
    rcases (show i = 1 ∨ i = 2 ∨ i = 3 ∨ i = 4 ∨ i = 5 ∨ i = 6 ∨ i = 7 ∨ i = 8 ∨ i = 9 by omega) with e | e | e | e | e | e | e | e | e <;> subst e <;> simp only [wSet, lix, rUpA, Int.reduceEq, reduceIte]
    · exact w1.symm
    · exact w2.symm
    · exact w3.symm
    · exact w4.symm
    · exact w5.symm
    · exact w0.symm
    · exact w6.symm
    · exact w8.symm
    · exact w7.symm
  · have q := hQ F' E' f4 (fun r h1 h2 => by rw [r' r h1 h2, pRow_ne h1])
    rw [← hv rfl] at q
    refine vX12_isBarred_17 v ⟨fun y => ?_, fun y => ?_⟩
    · have z : v = 0 := by
        have := hv rfl
        unfold barS at this
        rw [this]
        rw [this] at y
        cases L with
        | none => rfl
        | some L => exact (bI_01).resolve_right y
      rw [z] at q
      exact q
    · rw [y] at q
      exact q
end R
