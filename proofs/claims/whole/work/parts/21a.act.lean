/-! PAIRS of acts: what holds is kept where only the core, what can be undone, the latest one, the status and scratch rows change -/
def actE : List Int := [3, 11, 12, 14, 15, 17, 24, 25, 26, 28, 29, 32, 33, 35, 36, 37, 38, 39, 40, 42, 43, 46, 47, 48, 49, 50, 51, 67, 68, 71, 72, 73, 74, 76, 77, 78, 79, 80, 84, 85, 86, 87, 88, 89, 90, 91, 92, 93, 94, 95, 96, 97, 98, 99, 100, 101, 103]
def actF : List (Int × Int) := [(1, 4), (1, 6), (1, 7), (52, 4), (52, 6), (52, 7), (59, 4), (59, 6), (59, 7), (22, 1), (66, 13), (66, 11), (0, 18), (66, 18), (0, 17), (66, 70), (44, 5), (0, 7), (66, 74), (66, 20)]
def EK (E E' : Int → Int → Int) : Prop := ∀ a, a ∉ actE → E' a = E a
def FK (F F' : Int → Int → Int) : Prop := FS F' ∧ (∀ t ∈ actF, F' t.1 t.2 = F t.1 t.2) ∧ ∀ a, 105 ≤ a → F' a = F a
theorem EK.refl {E : Int → Int → Int} : EK E E := fun _ _ => rfl
theorem EK.trans {E E' E'' : Int → Int → Int} (h : EK E E') (h' : EK E' E'') : EK E E'' := fun a ha => (h' a ha).trans (h a ha)
theorem EK.row {E E' : Int → Int → Int} {a : Int} {g : Int → Int} (h : EK E E') (ha : a ∈ actE) : EK E (pRow E' a g) := fun b hb => (pRow_ne (fun (e : b = a) => hb (by rw [e]; exact ha))).trans (h b hb)
theorem EK.up {E E' : Int → Int → Int} {a k v : Int} (h : EK E E') (ha : a ∈ actE) : EK E (pUp E' a k v) := fun b hb => (pUp_an (fun (e : b = a) => hb (by rw [e]; exact ha))).trans (h b hb)
theorem FK.refl {F : Int → Int → Int} (h : FS F) : FK F F := ⟨h, fun _ _ => rfl, fun _ _ => rfl⟩
theorem FK.trans {F F' F'' : Int → Int → Int} (h : FK F F') (h' : FK F' F'') : FK F F'' := ⟨h'.1, fun t ht => (h'.2.1 t ht).trans (h.2.1 t ht), fun a ha => (h'.2.2 a ha).trans (h.2.2 a ha)⟩
theorem FK.up {F F' : Int → Int → Int} {a k v : Int} (h : FK F F') (h1 : fTab.all (fun t => !(decide (t.1 = a) && decide (t.2.1 = k))) = true) (h2 : actF.all (fun t => !(decide (t.1 = a) && decide (t.2 = k))) = true) (h3 : a < 105) : FK F (pUp F' a k v) := by
  refine ⟨h.1.up h1, fun t ht => ?_, fun b hb => (pUp_an (by omega)).trans (h.2.2 b hb)⟩
  have := List.all_eq_true.mp h2 t ht
  simp at this
  unfold pUp
  rw [if_neg (fun q => this.elim (fun z => z q.1) (fun z => z q.2))]
  exact h.2.1 t ht
theorem ek_neg {E E' : Int → Int → Int} (h : EK E E') {a : Int} (ha : a < 0 ∨ 105 ≤ a) : E' a = E a := h a fun q => by
  have : actE.all (fun t => decide (0 ≤ t) && decide (t < 105)) = true := by decide
  have := List.all_eq_true.mp this a q
  simp at this
  omega
theorem inv_act {LR : tLR} {G : pG} {n : Nat} {K : Int → Nat × Nat} {F E F' E' : Int → Int → Int} {c : Int → Int} (hL : LOk LR) (h : Inv LR G n K F E) (hF : FK F F') (hE : EK E E') (rk : RowOk (E 68) (E' 68) c) (ck : cz (E' 3) = c) (ci : CInv c)
    (ur : UR (F' 10 2) (F' 10 3) (E' 11) (E' 12) (F' 66 8) (E' 71) (E' 72)) (lt : LtR (F' 41 1) (E' 42) (F' 41 3) (E' 43) (F' 41 4) (F' 66 59) (E' 97) (F' 66 61) (E' 98) (F' 66 62)) (st : F' 66 1 = F' 0 16 ∧ RfR (E' 49) (E' 67)) : Inv LR G n K F' E' := by
  obtain ⟨hf1, hf2, hf3⟩ := hF
  have g : ∀ i : Nat, ∀ t, actF[i]? = some t → F' t.1 t.2 = F t.1 t.2 := fun i t ht => hf2 t (List.mem_of_getElem? ht)
  have e : ∀ a, actE.all (fun t => !(decide (t = a))) = true → E' a = E a := fun a ha => hE a fun q => by
    have := List.all_eq_true.mp ha a q
    simp at this
  have hl : ∀ t r r', (∀ j, 0 ≤ j → j < 900 → r' j = r j) → LawAt LR K F E t r → LawAt LR K F E t r' := fun t r r' e q => q.row hL e
  have hk := h.2.1
  refine inv_build h hf1 ?_ (fun a ha => ek_neg hE (Or.inl ha)) hf3 (fun a ha => ek_neg hE (Or.inr ha)) ?_ ?_ ?_ ur ?_ lt st ?_ ?_ ?_
  · intro t ht
    have q : eTab.all (fun t => actE.all (fun s => !(decide (s = t.1)))) = true := by decide +kernel
    rw [e t.1 (List.all_eq_true.mp q t ht)]
    exact h.1.2.2.2.1 t ht
  · have r3 : ∀ j, (j < 6 ∨ 123 ≤ j) → E' 68 j = E 68 j := rk.2
    rw [e 4 (by decide), e 5 (by decide), e 6 (by decide), e 7 (by decide), show F' 1 4 = F 1 4 from g 0 (1, 4) rfl, show F' 1 6 = F 1 6 from g 1 (1, 6) rfl, show F' 1 7 = F 1 7 from g 2 (1, 7) rfl]
    refine hk.chg hl (fun j j0 => r3 j (by omega)) ⟨rel_of (rk.1.trans ck.symm), cinv_of (ck ▸ ci)⟩ ?_ ?_ (r3 1 (by decide)) ?_
    · rw [r3 3 (by decide), r3 4 (by decide), r3 5 (by decide)]
      exact hk.2.1
    · obtain ⟨h2, h3, h4, h5⟩ := hk.2.2.1
      refine ⟨(r3 0 (by decide)).trans h2, h3, h4, fun k a b => ?_⟩
      rw [r3 _ (by omega), r3 _ (by omega)]
      exact h5 k a b
    · rw [r3 2 (by decide)]
      exact hk.2.2.2.2
  · rw [e 9 (by decide), e 70 (by decide), e 54 (by decide), e 55 (by decide), e 56 (by decide), e 57 (by decide), e 58 (by decide), e 69 (by decide), show F' 52 4 = F 52 4 from g 3 (52, 4) rfl, show F' 52 6 = F 52 6 from g 4 (52, 6) rfl, show F' 52 7 = F 52 7 from g 5 (52, 7) rfl]
    exact h.2.2.1
  · rw [e 9 (by decide), e 70 (by decide), e 61 (by decide), e 62 (by decide), e 63 (by decide), e 64 (by decide), e 65 (by decide), e 69 (by decide), show F' 59 4 = F 59 4 from g 6 (59, 4) rfl, show F' 59 6 = F 59 6 from g 7 (59, 6) rfl, show F' 59 7 = F 59 7 from g 8 (59, 7) rfl]
    exact h.2.2.2.1
  · rw [e 23 (by decide), e 75 (by decide), show F' 22 1 = F 22 1 from g 9 (22, 1) rfl, show F' 66 13 = F 66 13 from g 10 (66, 13) rfl]
    exact h.2.2.2.2.2.1
  · rw [show F' 66 11 = F 66 11 from g 11 (66, 11) rfl, show F' 0 18 = F 0 18 from g 12 (0, 18) rfl, show F' 66 18 = F 66 18 from g 13 (66, 18) rfl, show F' 0 17 = F 0 17 from g 14 (0, 17) rfl, show F' 66 70 = F 66 70 from g 15 (66, 70) rfl, show F' 44 5 = F 44 5 from g 16 (44, 5) rfl]
    exact h.2.2.2.2.2.2.2.2.1
  · rw [e 19 (by decide), e 104 (by decide), show F' 0 7 = F 0 7 from g 17 (0, 7) rfl, show F' 66 74 = F 66 74 from g 18 (66, 74) rfl]
    exact h.2.2.2.2.2.2.2.2.2.1
  · rw [show F' 66 20 = F 66 20 from g 19 (66, 20) rfl]
    exact h.2.2.2.2.2.2.2.2.2.2
theorem ek_out {n : Nat} {K : Int → Nat × Nat} {F E F' E' : Int → Int → Int} (h : EK E E') : Out (n, K, F, E) (n, K, F', E') := fun a ha => ⟨rfl, ek_neg h (Or.inl ha)⟩
/-- where a refusal is counted -/
def rfx (v : Int) : Int := if v < -3 then -v - 2 else -v - 1
section S
variable {l : Launch} {G : pG} {bg : Nat × Nat} {n : Nat} {K : Int → Nat × Nat} {F E : Int → Int → Int} {Q : Option pV → pM → Prop}
theorem c_settle {v : Int} (hK : KS K) (hF : FS F) (hv : 0 ≤ v ∨ v = -1 ∨ v = -2 ∨ v = -3 ∨ v = -5 ∨ v = -6) (h0 : 0 ≤ v → Q (some (0, v)) (n, K, pUp F 0 16 0, E)) (h1 : v < 0 → Q (some (0, v)) (n, K, pUp F 0 16 v, pUp E 49 (rfx v) (w32 (E 49 (rfx v) + 1)))) : PC l G 1 mX11_settle bg [(2, 0), (0, v)] (n, K, F, E) Q := by
  refine vX11_settle_0 0 v ?_
  simp only [hF.f0_13, hK.k0, hK.k49]
  refine ⟨fun z => ⟨trivial, fun F1 e1 => ?_⟩, fun z => ⟨trivial, fun F2 e2 => ⟨fun y => ⟨by omega, by omega, fun x => absurd x (by omega), fun x => ⟨fun t => absurd t (by omega), fun t => ⟨trivial, by omega, by decide, fun E3 e3 => ?_⟩⟩⟩, fun y => ⟨by omega, by omega, fun x => absurd x (by omega), fun x => ⟨fun t => absurd t (by omega), fun t => ⟨trivial, by omega, by decide, fun E3 e3 => ?_⟩⟩⟩⟩⟩⟩
  · rw [e1]; exact h0 z
  · have q := h1 (by omega)
    rw [show rfx v = -v - 2 from if_pos y] at q
    rw [e2, e3]; exact q
  · have q := h1 (by omega)
    rw [show rfx v = -v - 1 from if_neg y] at q
    rw [e2, e3]; exact q
theorem rfr_up {c m : Int → Int} {v : Int} (h : RfR c m) (hv : v = -1 ∨ v = -2 ∨ v = -3 ∨ v = -5 ∨ v = -6) : RfR (rUp c (rfx v) (w32 (c (rfx v) + 1))) (rUp m (-v) (w32 (m (-v) + 1))) := by
  rcases hv with e | e | e | e | e <;> subst e <;> exact h.up (by decide)
end S
/-- the class's side of an act, settled -/
def ActC (F E : Int → Int → Int) (sort : Int) (s : Int × (Int → Int)) (F' E' : Int → Int → Int) : Prop :=
  (s.1 < 0 ∧ F' = pUp F 0 16 s.1 ∧ E' = pUp E 49 (rfx s.1) (w32 (E 49 (rfx s.1) + 1))) ∨
  (0 ≤ s.1 ∧ ∃ f z kd cl g, (0 ≤ f ∧ f < 16 ∧ 0 ≤ z ∧ z ≤ 16) ∧ lgC f z kd cl = lgPush (lgC (F 10 2) (F 10 3) (E 11) (E 12)) (sort, cz (E 3)) ∧ cz g = s.2 ∧ F' = pUp (pUp (pUp F 10 2 f) 10 3 z) 0 16 0 ∧ E' = pRow (pRow (pRow E 11 kd) 12 cl) 3 g)
section T
variable {LR : tLR} {l : Launch} {G : pG} {bg : Nat × Nat} {n : Nat} {K : Int → Nat × Nat} {F E : Int → Int → Int} {Q : Option pV → pM → Prop} {s : Int × (Int → Int)} {sort : Int}
theorem cres_settle (hK : KS K) (hF : FS F) (hv : 0 ≤ s.1 ∨ s.1 = -1 ∨ s.1 = -2 ∨ s.1 = -3 ∨ s.1 = -5 ∨ s.1 = -6) (hQ : ∀ F' E', ActC F E sort s F' E' → Q (some (0, s.1)) (n, K, F', E')) : CRes n K F E (fun r μ => ∀ v, r = some (0, v) → PC l G 1 mX11_settle bg [(2, 0), (0, v)] μ Q) sort s := by
  refine ⟨fun z v e => ?_, fun z f y kd cl g a b c d e1 e2 v e => ?_⟩
  · obtain rfl : s.1 = v := by injection e with e; injection e
    exact c_settle hK hF hv (fun y => absurd y (by omega)) fun _ => hQ _ _ (Or.inl ⟨z, rfl, rfl⟩)
  · obtain rfl : s.1 = v := by injection e with e; injection e
    exact c_settle hK ((hF.up (by decide +kernel)).up (by decide +kernel)) hv (fun _ => hQ _ _ (Or.inr ⟨z, f, y, kd, cl, g, ⟨a, b, c, d⟩, e1, e2, rfl, rfl⟩)) (fun x => absurd x (by omega))
theorem actc_ek {F' E' : Int → Int → Int} (h : ActC F E sort s F' E') : EK E E' := by
  rcases h with ⟨_, _, e⟩ | ⟨_, f, z, kd, cl, g, _, _, _, _, e⟩
  · rw [e]; exact EK.refl.up (by decide)
  · rw [e]; exact ((EK.refl.row (by decide)).row (by decide)).row (by decide)
theorem actc_fk {F' E' : Int → Int → Int} (hF : FS F) (h : ActC F E sort s F' E') : FK F F' := by
  rcases h with ⟨_, e, _⟩ | ⟨_, f, z, kd, cl, g, _, _, _, e, _⟩
  · rw [e]; exact (FK.refl hF).up (by decide +kernel) (by decide +kernel) (by decide)
  · rw [e]; exact (((FK.refl hF).up (by decide +kernel) (by decide +kernel) (by decide)).up (by decide +kernel) (by decide +kernel) (by decide)).up (by decide +kernel) (by decide +kernel) (by decide)
theorem actc_68 {F' E' : Int → Int → Int} (h : ActC F E sort s F' E') : E' 68 = E 68 ∧ F' 66 = F 66 ∧ E' 71 = E 71 ∧ E' 72 = E 72 := by
  rcases h with ⟨_, f, e⟩ | ⟨_, _, _, _, _, _, _, _, _, f, e⟩
  · rw [e, f]; exact ⟨pUp_an (by decide), pUp_an (by decide), pUp_an (by decide), pUp_an (by decide)⟩
  · rw [e, f, pRow_ne (by decide), pRow_ne (by decide), pRow_ne (by decide), pUp_an (by decide), pUp_an (by decide), pUp_an (by decide), pRow_ne (by decide), pRow_ne (by decide), pRow_ne (by decide), pRow_ne (by decide), pRow_ne (by decide), pRow_ne (by decide)]
    exact ⟨rfl, rfl, rfl, rfl⟩
/-- the reference's side of an act, told, behind the class's -/
theorem rres_tell {F' E' : Int → Int → Int} (hL : LOk LR) (h : Inv LR G n K F E) (ha : ActC F E sort s F' E') (hv : 0 ≤ s.1 ∨ s.1 = -1 ∨ s.1 = -2 ∨ s.1 = -3 ∨ s.1 = -5 ∨ s.1 = -6) (hs : 0 ≤ s.1 → CInv s.2) (hr : 0 ≤ sort ∧ sort ≤ 4) (hQ : ∀ F2 E2, Inv LR G n K F2 E2 → EK E' E2 → Q (some (0, s.1)) (n, K, F2, E2)) :
    RRes n K (pUp F' 66 0 0) E' (fun r μ => ∀ v, r = some (0, v) → PC l G 0 mX12_tell bg [(2, 66), (0, v)] μ Q) sort s := by
  have hK := h.KS
  have hF := h.FS
  have fk := (actc_fk hF ha).up (a := 66) (k := 0) (v := 0) (by decide +kernel) (by decide +kernel) (by decide)
  have ek := actc_ek ha
  obtain ⟨e68, e66, e71, e72⟩ := actc_68 ha
  have hk := h.2.1
  have hu := h.2.2.2.2.1
  obtain ⟨hu1, hu2⟩ := ur_lg hu
  have hst := h.2.2.2.2.2.2.2.1
  have hlt := h.2.2.2.2.2.2.1
  refine ⟨fun z v e => ?_, fun z nu un so g a b e1 uo ro v e => ?_⟩
  · obtain rfl : s.1 = v := by injection e with e; injection e
    rcases ha with ⟨_, ef, ee⟩ | ⟨y, _⟩
    · refine k_tell hK fk.1.f66_2 (by omega) (fun y => absurd y (by omega)) fun _ => ?_
      subst ef ee
      refine hQ _ _ (inv_act hL h (fk.up (by decide +kernel) (by decide +kernel) (by decide)) (ek.up (by decide)) (c := cz (E 3)) ⟨?_, fun j _ => ?_⟩ ?_ (cinv_cz hk.1.2) ?_ ?_ ?_) (EK.refl.up (by decide))
      · rw [pUp_an (by decide), pUp_an (by decide)]; exact rel_cz hk.1.1
      · rw [pUp_an (by decide), pUp_an (by decide)]
      · rw [pUp_an (by decide), pUp_an (by decide)]
      · simp only [pUp1, rUpA, Int.reduceEq, reduceIte]
        exact hu
      · simp only [pUp1, rUpA, Int.reduceEq, reduceIte]
        exact hlt
      · simp only [pUp1, rUpA, Int.reduceEq, reduceIte]
        exact ⟨trivial, rfr_up hst.2 (by omega)⟩
    · omega
  · obtain rfl : s.1 = v := by injection e with e; injection e
    rcases ha with ⟨y, _⟩ | ⟨_, f, y, kd, cl, g', ⟨q1, q2, q3, q4⟩, eg, ec, ef, ee⟩
    · omega
    · have fk2 := fk.up (a := 66) (k := 8) (v := nu) (by decide +kernel) (by decide +kernel) (by decide)
      refine k_tell hK fk2.1.f66_2 (by omega) (fun _ => ?_) (fun x => absurd x (by omega))
      have nuz : nu = y := by
        have l1 := congrArg List.length e1
        have l2 := congrArg List.length eg
        rw [lgR_len] at l1
        rw [lgC_len] at l2
        have p : ∀ (L : tLog) x, (lgPush L x).length = if L.length = 16 then 16 else L.length + 1 := fun L x => by
          unfold lgPush
          rw [List.length_append, List.length_singleton]
          split
          · rw [List.length_tail]; omega
          · rfl
        rw [p, lgR_len] at l1
        rw [p, lgC_len] at l2
        have e3 : pUp F' 66 0 0 66 8 = F 66 8 := by rw [pUp_k (by decide), e66]
        rw [e3, hu.2.2.1] at l1
        omega
      have lg : lgR nu so un = lgC f y kd cl := by
        have e3 : pUp F' 66 0 0 66 8 = F 66 8 := by rw [pUp_k (by decide), e66]
        rw [e1, eg, e3, e71, e72, e68, hu1, rel_cz hk.1.1]
      subst nuz
      subst ef ee
      refine hQ _ _ (inv_act hL h (fk2.up (by decide +kernel) (by decide +kernel) (by decide)) (((ek.row (by decide)).row (by decide)).row (by decide)) (c := s.2) ⟨?_, fun j hj => ?_⟩ ?_ (hs z) ?_ ?_ ?_) (((EK.refl.row (by decide)).row (by decide)).row (by decide))
      · rw [pRow_at]; exact ro.1
      · rw [pRow_at, ro.2 j hj, e68]
      · simp only [pRow1, Int.reduceEq, reduceIte]
        exact ec
      · simp only [pUp1, pRow1, rUpA, Int.reduceEq, reduceIte]
        refine lg_ur q1 q2 q3 q4 lg ?_
        rw [eg]
        exact hu2.push ⟨hr, cinv_cz hk.1.2⟩
      · simp only [pUp1, pRow1, rUpA, Int.reduceEq, reduceIte]
        exact hlt
      · simp only [pUp1, pRow1, rUpA, Int.reduceEq, reduceIte]
        exact ⟨trivial, hst.2⟩
end T
