/-! ORDERS, over numbers; words and sums in the class -/
/-- core, log, done, latest -/
abbrev tOr : Type := (Int → Int) × tLog × Int × Int
def wO (s : tOr) : Int → Int := fun j => if j = 0 then s.1 1 else if j = 1 then s.2.2.1 else if j = 2 then s.2.2.2 else if j = 3 then s.1 2 else if j = 4 then s.1 0 else if j < 8 then s.1 (4 + j) else if j - 8 < s.1 0 then s.1 (6 * j - 31) else -1000
noncomputable def oAct (L : Option tLaw) (mood bud k : Int) (c v : Int → Int) : Int × (Int → Int) := if k = 0 then ((sCome c L mood bud (v 0) (v 1) (v 2)).1, (sCome c L mood bud (v 0) (v 1) (v 2)).2.1) else if k = 1 then sStrike c (v 0) else if k = 2 then sWindow c (v 0) (v 1) else sIndex c (v 0) (v 1)
def oSort (k : Int) : Int := if k = 0 then 0 else k + 1
def oVal (x : tKl) (s : tOr) : Int → Int := fun i => (x.2.2.2 i (wO s)).getD 0
def oAllS (x : tKl) (s : tOr) : Prop := ∀ i, 0 ≤ i → i < nSm false x.1 → x.2.2.2 i (wO s) ≠ none
noncomputable def oOne (L : Option tLaw) (mood bud : Int) (x : tKl) (s : tOr) : Option tOr :=
  @ite _ (tso x.2.2.1 (wO s)) (Classical.propDecidable _)
    (@ite _ (oAllS x s) (Classical.propDecidable _)
      (if 0 ≤ (oAct L mood bud x.1 s.1 (oVal x s)).1 then some ((oAct L mood bud x.1 s.1 (oVal x s)).2, lgPush s.2.1 (oSort x.1, s.1), s.2.2.1 + 1, if x.1 = 0 then (oAct L mood bud x.1 s.1 (oVal x s)).1 else s.2.2.2) else none) none) (some s)
noncomputable def oRep (L : Option tLaw) (mood bud : Int) (x : tKl) : Nat → tOr → Option tOr
  | 0, s => some s
  | m + 1, s => match oOne L mood bud x s with
    | none => none
    | some s' => oRep L mood bud x m s'
noncomputable def oAll (L : Option tLaw) (mood bud : Int) (C : Nat → tKl) : Nat → Nat → tOr → Option tOr × Int
  | 0, _, s => (some s, -1)
  | k + 1, c, s => match oRep L mood bud (C c) (C c).2.1.toNat s with
    | none => (none, (c : Int))
    | some s' => oAll L mood bud C k (c + 1) s'
def SOk (B : Int) (s : tOr) : Prop := CInv s.1 ∧ LInv s.2.1 ∧ (0 ≤ s.2.2.1 ∧ s.2.2.1 ≤ B) ∧ (-1 ≤ s.2.2.2 ∧ s.2.2.2 ≤ 20000)
theorem sCome_le {c : Int → Int} {L : Option tLaw} {mood bud r a b : Int} (hC : CInv c) : (sCome c L mood bud r a b).1 ≤ 15581 := by
  have cr := com_bd (L := L) (mood := mood) (bud := bud) (r := r) (a := a) (b := b) hC ogI
  unfold sCome
  split
  · split
    · split
      · exact cr.2.2.1.2
      · dsimp only; omega
    · dsimp only; omega
  · dsimp only; omega
theorem SOk.wo {B : Int} {s : tOr} (h : SOk B s) (b1 : B ≤ 1000) : WOk (wO s) 12 := by
  obtain ⟨⟨h1, h2, h3, h4, h5, _⟩, _, h6, h7⟩ := h
  intro k k0 k1
  unfold wO
  by_cases e0 : k = 0
  · rw [if_pos e0]; omega
  rw [if_neg e0]
  by_cases e1 : k = 1
  · rw [if_pos e1]; omega
  rw [if_neg e1]
  by_cases e2 : k = 2
  · rw [if_pos e2]; omega
  rw [if_neg e2]
  by_cases e3 : k = 3
  · rw [if_pos e3]; omega
  rw [if_neg e3]
  by_cases e4 : k = 4
  · rw [if_pos e4]; omega
  rw [if_neg e4]
  by_cases e5 : k < 8
  · rw [if_pos e5]
    have q := h4 (k - 5) (by omega) (by omega)
    rw [show 9 + (k - 5) = 4 + k by omega] at q
    omega
  rw [if_neg e5]
  by_cases e6 : k - 8 < s.1 0
  · rw [if_pos e6]
    have q := (h5 (k - 8) (by omega) e6).2.2.1
    rw [show 17 + 6 * (k - 8) = 6 * k - 31 by omega] at q
    omega
  · rw [if_neg e6]; omega
theorem oAct_ok {L : Option tLaw} {mood bud k : Int} {c v : Int → Int} (hC : CInv c) : CInv (oAct L mood bud k c v).2 ∧ (k = 0 → (oAct L mood bud k c v).1 ≤ 15581) := by
  have q := cinv_acts hC
  unfold oAct
  by_cases e0 : k = 0
  · rw [if_pos e0]; exact ⟨cinv_come hC, fun _ => sCome_le hC⟩
  rw [if_neg e0]
  refine ⟨?_, fun z => absurd z e0⟩
  by_cases e1 : k = 1
  · rw [if_pos e1]; exact q.1 _
  rw [if_neg e1]
  by_cases e2 : k = 2
  · rw [if_pos e2]; exact q.2.1 _ _
  · rw [if_neg e2]; exact q.2.2 _ _
theorem oOne_ok {L : Option tLaw} {mood bud B : Int} {x : tKl} {s s' : tOr} (hk : 0 ≤ x.1 ∧ x.1 ≤ 3) (h : SOk B s) (e : oOne L mood bud x s = some s') : SOk (B + 1) s' := by
  obtain ⟨h1, h2, h3, h4⟩ := h
  unfold oOne at e
  by_cases t : tso x.2.2.1 (wO s)
  · rw [if_pos t] at e
    by_cases a : oAllS x s
    · rw [if_pos a] at e
      by_cases r : 0 ≤ (oAct L mood bud x.1 s.1 (oVal x s)).1
      · rw [if_pos r] at e
        injection e with e
        rw [← e]
        have q := oAct_ok (L := L) (mood := mood) (bud := bud) (k := x.1) (v := oVal x s) h1
        refine ⟨q.1, h2.push ⟨?_, h1⟩, by dsimp only; omega, ?_⟩
        · show 0 ≤ oSort x.1 ∧ oSort x.1 ≤ 4
          unfold oSort; split <;> omega
        · show -1 ≤ (if x.1 = 0 then (oAct L mood bud x.1 s.1 (oVal x s)).1 else s.2.2.2) ∧ (if x.1 = 0 then (oAct L mood bud x.1 s.1 (oVal x s)).1 else s.2.2.2) ≤ 20000
          by_cases z : x.1 = 0
          · rw [if_pos z]; have := q.2 z; omega
          · rw [if_neg z]; exact h4
      · rw [if_neg r] at e; cases e
    · rw [if_neg a] at e; cases e
  · rw [if_neg t] at e
    injection e with e
    rw [← e]
    exact ⟨h1, h2, by omega, h4⟩
/-! the class -/
def FrCo (F E F' E' : Int → Int → Int) : Prop := (∀ r, r ≠ 3 → r ≠ 11 → r ≠ 12 → r ≠ 32 → r ≠ 33 → (r < 36 ∨ 40 < r) → r ≠ 46 → r ≠ 47 → r ≠ 48 → E' r = E r) ∧ FS F' ∧ ∀ a k, a ≠ 30 → ¬ (a = 10 ∧ (k = 2 ∨ k = 3)) → ¬ (a = 44 ∧ (k = 3 ∨ k = 4 ∨ k = 5)) → F' a k = F a k
theorem FrCo.refl {F E : Int → Int → Int} (h : FS F) : FrCo F E F E := ⟨fun _ _ _ _ _ _ _ _ _ _ => rfl, h, fun _ _ _ _ _ => rfl⟩
theorem FrCo.trans {F E F' E' F'' E'' : Int → Int → Int} (h : FrCo F E F' E') (h' : FrCo F' E' F'' E'') : FrCo F E F'' E'' := ⟨fun r a b c d e f g i j => (h'.1 r a b c d e f g i j).trans (h.1 r a b c d e f g i j), h'.2.1, fun a k q1 q2 q3 => (h'.2.2 a k q1 q2 q3).trans (h.2.2 a k q1 q2 q3)⟩
theorem FrCo.up {F E F' E' : Int → Int → Int} {k v : Int} (h : FrCo F E F' E') (hk : k = 3 ∨ k = 4 ∨ k = 5) : FrCo F E (pUp F' 44 k v) E' := by
  refine ⟨h.1, ?_, fun a j q1 q2 q3 => ?_⟩
  · rcases hk with e | e | e <;> subst e <;> exact h.2.1.up (by decide)
  · unfold pUp; rw [if_neg (by omega)]; exact h.2.2 a j q1 q2 q3
theorem FrCo.lw {K : Int → Nat × Nat} {F E F' E' : Int → Int → Int} {L : Option tLaw} (w : FrCo F E F' E') (h : LwC K F E L) : LwC K F' E' L := by
  refine ⟨?_, h.2⟩
  rw [w.2.2 1 7 (by decide) (by omega) (by omega), w.2.2 1 6 (by decide) (by omega) (by omega), w.1 7 (by decide) (by decide) (by decide) (by decide) (by decide) (by decide) (by decide) (by decide) (by decide)]
  exact h.1.imp id (fun ⟨L', e, q, v⟩ => ⟨L', e, q, v.keep (fun a ha => funext fun k => w.2.2 a k (by omega) (by omega) (by omega)) (fun a ha => w.1 a (by omega) (by omega) (by omega) (by omega) (by omega) (by omega) (by omega) (by omega) (by omega))⟩)
def CO (F E : Int → Int → Int) (s : tOr) : Prop := cz (E 3) = s.1 ∧ lgC (F 10 2) (F 10 3) (E 11) (E 12) = s.2.1 ∧ ((0 ≤ F 10 2 ∧ F 10 2 < 16) ∧ 0 ≤ F 10 3 ∧ F 10 3 ≤ 16) ∧ F 44 3 = s.2.2.1 ∧ F 44 4 = s.2.2.2
section C
variable {l : Launch} {G : pG} {bg : Nat × Nat} {n : Nat} {K : Int → Nat × Nat} {Q : Option pV → pM → Prop} {s : tOr}
theorem c_words78 {F E0 : Int → Int → Int} (hK : KS K) (hF : FS F) (hc : cz (E0 3) = s.1) (h4 : s.1 0 ≤ 4) (m : Nat) : ∀ (i : Int) (E : Int → Int → Int), i + m = 4 → 0 ≤ i → (∀ r, r ≠ 47 → E r = E0 r) → (∀ j, 0 ≤ j → j < 8 + i → E 47 j = wO s j) →
    (∀ E', (∀ r, r ≠ 47 → E' r = E0 r) → (∀ j, 0 ≤ j → j < 12 → E' 47 j = wO s j) → Q none (n, K, F, E')) → PW l G 1 mX7_setWords bg 78 [(0, (2, 44)), (1, (2, 2)), (2, (0, i))] [] (n, K, F, E) Q := by
  induction m with
  | zero =>
    intro i E e i0 r1 r2 hQ
    exact vX7_setWords_78 44 2 i ⟨fun _ => hQ E r1 (fun j j0 j1 => r2 j j0 (by omega)), fun z => absurd z (by omega)⟩
  | succ m ih =>
    intro i E e i0 r1 r2 hQ
    have c0 : E 3 0 = s.1 0 := by rw [r1 3 (by decide), ← hc, cz_in (by decide) (by decide)]
    refine vX7_setWords_78 44 2 i ⟨fun z => absurd z (by omega), fun _ => ?_⟩
    simp only [hF.f44_1, hF.f2_0, hK.k44, hK.k47, hK.k2, hK.k3, c0]
    have st : ∀ (E1 : Int → Int → Int) (v : Int), E1 = pUp E 47 (8 + i) v → v = wO s (8 + i) → PW l G 1 mX7_setWords bg 78 [(0, (2, 44)), (1, (2, 2)), (2, (0, i + 1))] [] (n, K, F, E1) Q := by
      intro E1 v e1 ev
      refine ih (i + 1) E1 (by omega) (by omega) (fun r hr => by rw [e1, pUp_an hr]; exact r1 r hr) (fun j j0 j1 => ?_) hQ
      by_cases z : j = 8 + i
      · rw [e1, z, pUp_s]; exact ev
      · rw [e1, pUp_k z]; exact r2 j j0 (by omega)
    have w8 : wO s (8 + i) = if i < s.1 0 then s.1 (17 + 6 * i) else -1000 := by
      unfold wO
      rw [if_neg (by omega), if_neg (by omega), if_neg (by omega), if_neg (by omega), if_neg (by omega), if_neg (by omega), show 8 + i - 8 = i by omega, show 6 * (8 + i) - 31 = 17 + 6 * i by omega]
    refine ⟨trivial, by omega, trivial, trivial, by decide, fun z => ⟨by decide, trivial, by omega, fun E1 e1 => ⟨by omega, st E1 _ e1 ?_⟩⟩, fun z => ⟨by omega, by omega, by omega, by omega, by decide, trivial, by omega, fun E1 e1 => ⟨by omega, st E1 _ e1 ?_⟩⟩⟩
    · rw [w8, if_neg (by omega)]
    · rw [w8, if_pos z.2, ← hc, cz_in (by omega) (by omega), r1 3 (by decide)]
      congr 1
      omega
theorem c_words52 {F E0 : Int → Int → Int} (hK : KS K) (hF : FS F) (hc : cz (E0 3) = s.1) (h4 : s.1 0 ≤ 4) (m : Nat) : ∀ (i : Int) (E : Int → Int → Int), i + m = 3 → 0 ≤ i → (∀ r, r ≠ 47 → E r = E0 r) → (∀ j, 0 ≤ j → j < 5 + i → E 47 j = wO s j) →
    (∀ E', (∀ r, r ≠ 47 → E' r = E0 r) → (∀ j, 0 ≤ j → j < 12 → E' 47 j = wO s j) → Q none (n, K, F, E')) → PW l G 1 mX7_setWords bg 52 [(0, (2, 44)), (1, (2, 2)), (2, (0, i))] [] (n, K, F, E) Q := by
  induction m with
  | zero =>
    intro i E e i0 r1 r2 hQ
    exact vX7_setWords_52 44 2 i ⟨fun _ => c_words78 hK hF hc h4 4 0 E (by decide) (by decide) r1 (fun j j0 j1 => r2 j j0 (by omega)) hQ, fun z => absurd z (by omega)⟩
  | succ m ih =>
    intro i E e i0 r1 r2 hQ
    refine vX7_setWords_52 44 2 i ⟨fun z => absurd z (by omega), fun _ => ?_⟩
    simp only [hF.f44_1, hF.f2_0, hK.k44, hK.k47, hK.k2, hK.k3]
    refine ⟨trivial, by omega, trivial, by omega, trivial, by omega, by decide, trivial, by omega, fun E1 e1 => ⟨by omega, ih (i + 1) E1 (by omega) (by omega) (fun r hr => by rw [e1, pUp_an hr]; exact r1 r hr) (fun j j0 j1 => ?_) hQ⟩⟩
    by_cases z : j = 5 + i
    · rw [e1, z, pUp_s]
      unfold wO
      rw [if_neg (by omega), if_neg (by omega), if_neg (by omega), if_neg (by omega), if_neg (by omega), if_pos (by omega), r1 3 (by decide), ← hc, cz_in (by omega) (by omega)]
      congr 1
      omega
    · rw [e1, pUp_k z]; exact r2 j j0 (by omega)
theorem c_setWords {F E : Int → Int → Int} (hK : KS K) (hF : FS F) (h : CO F E s) (h4 : s.1 0 ≤ 4) (hQ : ∀ E', (∀ r, r ≠ 47 → E' r = E r) → (∀ j, 0 ≤ j → j < 12 → E' 47 j = wO s j) → Q none (n, K, F, E')) : PC l G 1 mX7_setWords bg [(2, 44), (2, 2)] (n, K, F, E) Q := by
  obtain ⟨hc, _, _, hd, hl⟩ := h
  refine vX7_setWords_0 44 2 ?_
  simp only [hF.f44_1, hF.f2_0, hK.k44, hK.k47, hK.k2, hK.k3, hd, hl]
  refine ⟨trivial, trivial, trivial, by decide, by decide, trivial, by decide, fun E1 e1 => ⟨by decide, fun E2 e2 => ⟨by decide, fun E3 e3 => ⟨by decide, by decide, fun E4 e4 => ⟨by decide, by decide, fun E5 e5 => ?_⟩⟩⟩⟩⟩
  have o5 : ∀ r, r ≠ 47 → E5 r = E r := fun r hr => by rw [e5, pUp_an hr, e4, pUp_an hr, e3, pUp_an hr, e2, pUp_an hr, e1, pUp_an hr]
  have o3 : E3 3 = E 3 := by rw [e3, pUp_an (by decide), e2, pUp_an (by decide), e1, pUp_an (by decide)]
  have o4 : E4 3 = E 3 := by rw [e4, pUp_an (by decide)]; exact o3
  refine c_words52 hK hF hc h4 3 0 E5 (by decide) (by decide) o5 (fun j j0 j1 => ?_) hQ
  have q : j = 0 ∨ j = 1 ∨ j = 2 ∨ j = 3 ∨ j = 4 := by omega
  rcases q with e | e | e | e | e <;> subst e
  · rw [e5, pUp_k (by decide), e4, pUp_k (by decide), e3, pUp_k (by decide), e2, pUp_k (by decide), e1, pUp_s]
    show E 3 1 = s.1 1
    rw [← hc, cz_in (by decide) (by decide)]
  · rw [e5, pUp_k (by decide), e4, pUp_k (by decide), e3, pUp_k (by decide), e2, pUp_s]; rfl
  · rw [e5, pUp_k (by decide), e4, pUp_k (by decide), e3, pUp_s]; rfl
  · rw [e5, pUp_k (by decide), e4, pUp_s, o3]
    show E 3 2 = s.1 2
    rw [← hc, cz_in (by decide) (by decide)]
  · rw [e5, pUp_s, o4]
    show E 3 0 = s.1 0
    rw [← hc, cz_in (by decide) (by decide)]
theorem c_sums_3 {F E0 : Int → Int → Int} {x : tKl} {c : Int} (hK : KS K) (hF : FS F) (c0 : 0 ≤ c) (c12 : c < 12) (hl : F 27 3 ≤ 800) (hk : KlC false (E0 28) (E0 29) (F 27 3) c x) (hko : KOk false x) (hw : WOk (wO s) 12) (h47 : ∀ j, 0 ≤ j → j < 12 → E0 47 j = wO s j) (m : Nat) : ∀ (i : Int) (E : Int → Int → Int), i + m = 3 → 0 ≤ i → (∀ r, r ≠ 46 → r ≠ 48 → E r = E0 r) → (∀ j, 0 ≤ j → j < i → j < nSm false x.1 → x.2.2.2 j (wO s) ≠ none ∧ E 48 j = oVal x s j) →
    (∀ E', (∀ r, r ≠ 46 → r ≠ 48 → E' r = E0 r) → ¬ oAllS x s → Q (some (0, 0)) (n, K, F, E')) →
    (∀ E', (∀ r, r ≠ 46 → r ≠ 48 → E' r = E0 r) → oAllS x s → (∀ j, 0 ≤ j → j < nSm false x.1 → E' 48 j = oVal x s j) → Q (some (0, 1)) (n, K, F, E')) → PW l G 2 mX4_setSums bg 3 [(0, (2, 45)), (1, (2, 27)), (2, (0, c)), (3, (2, 47)), (4, (2, 48)), (5, (0, i))] [] (n, K, F, E) Q := by
  have ns : nSm false x.1 ≤ 3 := by unfold nSm; rw [if_neg (by decide)]; (repeat' split) <;> omega
  induction m with
  | zero =>
    intro i E e i0 r1 r2 h0 h1
    exact vX4_setSums_3 45 27 c 47 48 i ⟨fun _ => h1 E r1 (fun j j0 j1 => (r2 j j0 (by omega) j1).1) (fun j j0 j1 => (r2 j j0 (by omega) j1).2), fun z => absurd z (by omega)⟩
  | succ m ih =>
    intro i E e i0 r1 r2 h0 h1
    have ki := hk.2.2.2 i i0 (by omega)
    refine vX4_setSums_3 45 27 c 47 48 i ⟨fun z => absurd z (by omega), fun _ => ?_⟩
    simp only [hF.f27_0, hF.f27_1, hK.k27, hK.k28, hK.k45, hK.k48, r1 28 (by decide) (by decide)]
    refine ⟨by omega, trivial, by omega, by omega, trivial, by omega, fun z => ⟨trivial, ?_⟩, fun z => ⟨by decide, trivial, by omega, fun E1 e1 => ⟨by omega, ?_⟩⟩⟩
    · have il : i < nSm false x.1 := by
        by_cases q : i < nSm false x.1
        · exact q
        · exact absurd (ki.2 (by omega)) z
      obtain ⟨cd, ph⟩ := ki.1 il
      have ef : x.2.2.2 i (E 47) = x.2.2.2 i (wO s) := hko.2.2.2 i i0 il _ _ (fun k k0 k1 => by rw [r1 47 (by decide) (by decide)]; exact h47 k k0 k1)
      have w47 : WOk (E 47) 12 := fun k k0 k1 => by rw [r1 47 (by decide) (by decide), h47 k k0 k1]; exact hw k k0 k1
      refine c_value (S := 46) (f := x.2.2.2 i) (by rw [hK.k45]) hF.f45_0 hK.k46 (by decide) (by decide) (by decide) (by rw [hK.k29]) (nw := 12) ?_ (by rw [hK.k47]) (by rw [hK.k47]; rfl) w47 ph fun E1 n1 => ?_
      · rw [hK.k29, r1 29 (by decide) (by decide)]
        exact cd.grow (fun _ _ => rfl) hl (by decide)
      · rw [ef]
        refine vX4_setSums_41 45 27 c 47 48 i _ ?_
        simp only [hK.k48]
        have o1 : ∀ r, r ≠ 46 → r ≠ 48 → E1 r = E0 r := fun r a b => by rw [n1 r a]; exact r1 r a b
        cases v : x.2.2.2 i (wO s) with
        | none =>
          refine ⟨fun q => absurd rfl q, fun _ => h0 E1 o1 (fun q => q i i0 il v)⟩
        | some u =>
          have ur := ph (wO s) u hw v
          have ou : oV (some u) = u := rfl
          rw [ou]
          refine ⟨fun q => ⟨by omega, by decide, trivial, by omega, fun E2 e2 => ⟨by omega, ih (i + 1) E2 (by omega) (by omega) (fun r a b => by rw [e2, pUp_an b]; exact o1 r a b) (fun j j0 j1 j2 => ?_) h0 h1⟩⟩, fun q => absurd q (by omega)⟩
          by_cases y : j = i
          · subst y
            refine ⟨fun q => (by rw [v] at q; cases q), ?_⟩
            rw [e2, pUp_s]
            unfold oVal
            rw [v]
            rfl
          · have r := r2 j j0 (by omega) j2
            refine ⟨r.1, ?_⟩
            rw [e2, pUp_k y, n1 48 (by decide)]
            exact r.2
    · refine ih (i + 1) E1 (by omega) (by omega) (fun r a b => by rw [e1, pUp_an b]; exact r1 r a b) (fun j j0 j1 j2 => ?_) h0 h1
      by_cases y : j = i
      · subst y
        have q := (ki.1 j2).1
        obtain ⟨b, mm, ⟨a0, _⟩, _⟩ := q
        exact absurd z (by omega)
      · have r := r2 j j0 (by omega) j2
        rw [e1, pUp_k y]
        exact r
end C
