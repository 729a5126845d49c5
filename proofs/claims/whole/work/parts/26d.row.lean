/-! THE PAIR row -/
def actE2 : List Int := 19 :: 104 :: actE
def actF2 : List (Int × Int) := [(1, 4), (1, 6), (1, 7), (52, 4), (52, 6), (52, 7), (59, 4), (59, 6), (59, 7), (66, 20)]
def EK2 (E E' : Int → Int → Int) : Prop := ∀ a, a ∉ actE2 → E' a = E a
def FK2 (F F' : Int → Int → Int) : Prop := FS F' ∧ (∀ t ∈ actF2, F' t.1 t.2 = F t.1 t.2) ∧ ∀ a, 105 ≤ a → F' a = F a
theorem ek2_neg {E E' : Int → Int → Int} (h : EK2 E E') {a : Int} (ha : a < 0 ∨ 105 ≤ a) : E' a = E a := h a fun q => by
  have : actE2.all (fun t => decide (0 ≤ t) && decide (t < 105)) = true := by decide
  have := List.all_eq_true.mp this a q
  simp at this
  omega
theorem ek2_out {n : Nat} {K : Int → Nat × Nat} {F E F' E' : Int → Int → Int} (h : EK2 E E') : Out (n, K, F, E) (n, K, F', E') := fun a ha => ⟨rfl, ek2_neg h (Or.inl ha)⟩
/-- as inv_act, where the tape, the strays, the fault, what is drawn may change too -/
theorem inv_act2 {LR : tLR} {G : pG} {n : Nat} {K : Int → Nat × Nat} {F E F' E' : Int → Int → Int} {c : Int → Int} (hL : LOk LR) (h : Inv LR G n K F E) (hF : FK2 F F') (hE : EK2 E E') (rk : RowOk (E 68) (E' 68) c) (ck : cz (E' 3) = c) (ci : CInv c)
    (ur : UR (F' 10 2) (F' 10 3) (E' 11) (E' 12) (F' 66 8) (E' 71) (E' 72)) (lt : LtR (F' 41 1) (E' 42) (F' 41 3) (E' 43) (F' 41 4) (F' 66 59) (E' 97) (F' 66 61) (E' 98) (F' 66 62)) (st : F' 66 1 = F' 0 16 ∧ RfR (E' 49) (E' 67))
    (tp : TpR (F' 22 1) (E' 23) (F' 66 13) (E' 75)) (s2 : F' 66 11 = F' 0 18 ∧ F' 66 18 = F' 0 17 ∧ F' 66 70 = F' 44 5) (dr : DrR (F' 0 7) (E' 19) (F' 66 74) (E' 104)) : Inv LR G n K F' E' := by
  obtain ⟨hf1, hf2, hf3⟩ := hF
  have g : ∀ i : Nat, ∀ t, actF2[i]? = some t → F' t.1 t.2 = F t.1 t.2 := fun i t ht => hf2 t (List.mem_of_getElem? ht)
  have e : ∀ a, actE2.all (fun t => !(decide (t = a))) = true → E' a = E a := fun a ha => hE a fun q => by
    have := List.all_eq_true.mp ha a q
    simp at this
  have hl : ∀ t r r', (∀ j, 0 ≤ j → j < 900 → r' j = r j) → LawAt LR K F E t r → LawAt LR K F E t r' := fun t r r' e q => q.row hL e
  have hk := h.2.1
  refine inv_build h hf1 ?_ (fun a ha => ek2_neg hE (Or.inl ha)) hf3 (fun a ha => ek2_neg hE (Or.inr ha)) ?_ ?_ ?_ ur tp lt st s2 dr ?_
  · intro t ht
    have q : eTab.all (fun t => actE2.all (fun s => !(decide (s = t.1)))) = true := by decide +kernel
    rw [e t.1 (List.all_eq_true.mp q t ht)]
    exact h.1.2.2.2.1 t ht
  · have r3 : ∀ j, (j < 6 ∨ 123 ≤ j) → E' 68 j = E 68 j := rk.2
    rw [e 4 (by decide), e 5 (by decide), e 6 (by decide), e 7 (by decide), show F' 1 4 = F 1 4 from g 0 (1, 4) rfl, show F' 1 6 = F 1 6 from g 1 (1, 6) rfl, show F' 1 7 = F 1 7 from g 2 (1, 7) rfl]
    refine hk.chg hl (fun j j0 => r3 j (by omega)) ⟨rel_of (rk.1.trans ck.symm), cinv_of (ck ▸ ci)⟩ ?_ ?_ (r3 1 (by decide)) ?_
    · rw [r3 3 (by decide), r3 4 (by decide), r3 5 (by decide)]
      exact hk.2.1
    · obtain ⟨h2, h3, h4, h5⟩ := hk.2.2.1
      refine ⟨(r3 0 (by decide)).trans h2, h3, h4, fun k a b => ?_⟩
      rw [r3 _ (by omega), r3 _ (by omega)]
      exact h5 k a b
    · rw [r3 2 (by decide)]
      exact hk.2.2.2.2
  · rw [e 9 (by decide), e 70 (by decide), e 54 (by decide), e 55 (by decide), e 56 (by decide), e 57 (by decide), e 58 (by decide), e 69 (by decide), show F' 52 4 = F 52 4 from g 3 (52, 4) rfl, show F' 52 6 = F 52 6 from g 4 (52, 6) rfl, show F' 52 7 = F 52 7 from g 5 (52, 7) rfl]
    exact h.2.2.1
  · rw [e 9 (by decide), e 70 (by decide), e 61 (by decide), e 62 (by decide), e 63 (by decide), e 64 (by decide), e 65 (by decide), e 69 (by decide), show F' 59 4 = F 59 4 from g 6 (59, 4) rfl, show F' 59 6 = F 59 6 from g 7 (59, 6) rfl, show F' 59 7 = F 59 7 from g 8 (59, 7) rfl]
    exact h.2.2.2.1
  · rw [show F' 66 20 = F 66 20 from g 9 (66, 20) rfl]
    exact h.2.2.2.2.2.2.2.2.2.2
/-- a row of tuples: how many came, and the core behind them -/
noncomputable def rwS (L : Option tLaw) (mood bud : Int) (tp : Int → Int) (len : Int) : Nat → Int → Int → (Int → Int) → Int × (Int → Int)
  | 0, _, k, c => (k, c)
  | m + 1, i, k, c => if len ≤ i + 2 then rwS L mood bud tp len m (i + 3) k c else rwS L mood bud tp len m (i + 3) (if (sCome c L mood bud (tp i) (tp (i + 1)) (tp (i + 2))).1 < 0 then k else k + 1) (sCome c L mood bud (tp i) (tp (i + 1)) (tp (i + 2))).2.1
theorem rwS_ok {L : Option tLaw} {mood bud : Int} {tp : Int → Int} {len : Int} (m : Nat) : ∀ i k c, CInv c → CInv (rwS L mood bud tp len m i k c).2 ∧ k ≤ (rwS L mood bud tp len m i k c).1 ∧ (rwS L mood bud tp len m i k c).1 ≤ k + m := by
  induction m with
  | zero => intro i k c hC; unfold rwS; exact ⟨hC, by dsimp only; omega, by dsimp only; omega⟩
  | succ m ih =>
    intro i k c hC
    unfold rwS
    split
    · have := ih (i + 3) k c hC
      exact ⟨this.1, by omega, by omega⟩
    · have := ih (i + 3) (if (sCome c L mood bud (tp i) (tp (i + 1)) (tp (i + 2))).1 < 0 then k else k + 1) _ (cinv_come (L := L) (mood := mood) (bud := bud) (r := tp i) (a := tp (i + 1)) (b := tp (i + 2)) hC)
      refine ⟨this.1, ?_, ?_⟩
      · have := this.2.1; split at this <;> omega
      · have := this.2.2; split at this <;> omega
/-- what a row changes in the class -/
def FrG (F E F' E' : Int → Int → Int) : Prop := (∀ r, r ≠ 3 → r ≠ 32 → r ≠ 33 → (r < 36 ∨ 40 < r) → E' r = E r) ∧ FS F' ∧ ∀ a k, a ≠ 30 → F' a k = F a k
theorem FrG.refl {F E : Int → Int → Int} (h : FS F) : FrG F E F E := ⟨fun _ _ _ _ _ => rfl, h, fun _ _ _ => rfl⟩
theorem FrG.trans {F E F' E' F'' E'' : Int → Int → Int} (h : FrG F E F' E') (h' : FrG F' E' F'' E'') : FrG F E F'' E'' := ⟨fun r a b c d => (h'.1 r a b c d).trans (h.1 r a b c d), h'.2.1, fun a k q => (h'.2.2 a k q).trans (h.2.2 a k q)⟩
theorem FrD.g {v : Int} {c : Int → Int} {F E F' E' : Int → Int → Int} (h : FrD 3 F E F' E') (hl : LgU (-1) v c F E F' E') : FrG F E F' E' := by
  rcases hl with ⟨q, _⟩ | ⟨_, q1, q2, q3, q4⟩
  · omega
  · refine ⟨fun r h1 h2 h3 h4 => ?_, h.2.1, fun a k ha => ?_⟩
    · by_cases e1 : r = 11
      · rw [e1]; exact q3
      · by_cases e2 : r = 12
        · rw [e2]; exact q4
        · exact h.1 r h1 e1 e2 h2 h3 h4
    · by_cases e1 : a = 10 ∧ (k = 2 ∨ k = 3)
      · obtain ⟨rfl, e | e⟩ := e1
        · rw [e]; exact q1
        · rw [e]; exact q2
      · exact h.2.2 a k ha e1
theorem LwC.keepG {K : Int → Nat × Nat} {F E F' E' : Int → Int → Int} {L : Option tLaw} (h : LwC K F E L) (hp : FrG F E F' E') : LwC K F' E' L := by
  refine ⟨?_, h.2⟩
  have e7 : E' 7 = E 7 := hp.1 7 (by decide) (by decide) (by decide) (by decide)
  rw [hp.2.2 1 7 (by decide), hp.2.2 1 6 (by decide), e7]
  exact h.1.imp id (fun ⟨L', e, q, w⟩ => ⟨L', e, q, w.keep (fun a ha => funext fun k => hp.2.2 a k (by omega)) (fun a ha => hp.1 a (by omega) (by omega) (by omega) (by omega))⟩)
section C
variable {l : Launch} {G : pG} {bg : Nat × Nat} {n : Nat} {K : Int → Nat × Nat} {Q : Option pV → pM → Prop} {L : Option tLaw} {mood bud len : Int} {tp : Int → Int}
theorem c_row_23 (hK : KS K) (m0 : 0 ≤ mood ∧ mood ≤ 9) (hlen : 0 ≤ len ∧ len ≤ 400) (m : Nat) : ∀ (i k al : Int) (c : Int → Int) (F E : Int → Int → Int), FS F → cz (E 3) = c → CInv c → LwC K F E L → E 4 2 = mood → E 4 0 = bud → ((0 ≤ F 10 2 ∧ F 10 2 < 16) ∧ 0 ≤ F 10 3 ∧ F 10 3 ≤ 16) → F 22 1 = len → (∀ j, 0 ≤ j → j < len → bAnd (E 23 j) 255 = tp j) → 0 ≤ i → len ≤ i + 3 * m → i + 3 * m < len + 3 → 0 ≤ k → k ≤ i → 0 ≤ al → al ≤ i →
    (∀ F' E', FrG F E F' E' → cz (E' 3) = (rwS L mood bud tp len m i k c).2 → PW l G 32 mX11_row bg 23 [(0, (2, 0)), (1, (0, (rwS L mood bud tp len m i k c).1)), (2, (0, al + m)), (3, (0, i + 3 * m))] [] (n, K, F', E') Q) →
    PW l G 32 mX11_row bg 23 [(0, (2, 0)), (1, (0, k)), (2, (0, al)), (3, (0, i))] [] (n, K, F, E) Q := by
  induction m with
  | zero =>
    intro i k al c F E hF hc hC hl hm hb hg ht hj i0 i1 i2 k0 k1 a0 a1 hQ
    have q := hQ F E (FrG.refl hF) hc
    unfold rwS at q
    rw [show al + ((0 : Nat) : Int) = al by omega, show i + 3 * ((0 : Nat) : Int) = i by omega] at q
    exact q
  | succ m ih =>
    intro i k al c F E hF hc hC hl hm hb hg ht hj i0 i1 i2 k0 k1 a0 a1 hQ
    refine vX11_row_23 0 k al i ?_
    simp only [hF.f0_0, hF.f0_9, hF.f1_0, hF.f22_0, hK.k0, hK.k1, hK.k22, hK.k23, ht]
    refine ⟨trivial, trivial, fun z => absurd z (by omega), fun _ => ⟨by omega, by omega, fun z => ⟨by omega, ?_⟩, fun z => ⟨trivial, by decide, trivial, by omega, by omega, by omega, by omega, ?_⟩⟩⟩
    · refine ih (i + 3) k (al + 1) c F E hF hc hC hl hm hb hg ht hj (by omega) (by omega) (by omega) (by omega) (by omega) (by omega) (by omega) fun F' E' w cc => ?_
      have q := hQ F' E' w (by unfold rwS; rw [if_pos z]; exact cc)
      unfold rwS at q
      rw [if_pos z, show al + ((m + 1 : Nat) : Int) = al + 1 + m by omega, show i + 3 * ((m + 1 : Nat) : Int) = i + 3 + 3 * m by omega] at q
      exact q
    · rw [hj i (by omega) (by omega), hj (i + 1) (by omega) (by omega), hj (i + 2) (by omega) (by omega)]
      refine c_comeTo hK hF (Or.inl ⟨rfl, rfl⟩) (Or.inl rfl) hc hC hl hm m0 hb hg fun F1 E1 w1 cy lg _ => ?_
      have g1 := w1.g lg
      have hC1 := cinv_come (L := L) (mood := mood) (bud := bud) (r := tp i) (a := tp (i + 1)) (b := tp (i + 2)) hC
      have step : ∀ k', (k' = if (sCome c L mood bud (tp i) (tp (i + 1)) (tp (i + 2))).1 < 0 then k else k + 1) → 0 ≤ k' → k' ≤ i + 3 → PW l G 32 mX11_row bg 23 [(0, (2, 0)), (1, (0, k')), (2, (0, al + 1)), (3, (0, i + 3))] [] (n, K, F1, E1) Q := fun k' ek h0 h1 => by
        have hg1 : (0 ≤ F1 10 2 ∧ F1 10 2 < 16) ∧ 0 ≤ F1 10 3 ∧ F1 10 3 ≤ 16 := by rw [g1.2.2 10 2 (by decide), g1.2.2 10 3 (by decide)]; exact hg
        refine ih (i + 3) k' (al + 1) _ F1 E1 g1.2.1 cy hC1 (hl.keepG g1) (by rw [g1.1 4 (by decide) (by decide) (by decide) (by decide)]; exact hm) (by rw [g1.1 4 (by decide) (by decide) (by decide) (by decide)]; exact hb) hg1 (by rw [g1.2.2 22 1 (by decide)]; exact ht) (fun j j0 j1 => by rw [g1.1 23 (by decide) (by decide) (by decide) (by decide)]; exact hj j j0 j1) (by omega) (by omega) (by omega) h0 h1 (by omega) (by omega) fun F' E' w cc => ?_
        subst ek
        have q := hQ F' E' (g1.trans w) (by unfold rwS; rw [if_neg z]; exact cc)
        unfold rwS at q
        rw [if_neg z, show al + ((m + 1 : Nat) : Int) = al + 1 + m by omega, show i + 3 * ((m + 1 : Nat) : Int) = i + 3 + 3 * m by omega] at q
        exact q
      refine vX11_row_90 0 k (al + 1) i _ ⟨fun y => ⟨by omega, step k (by rw [if_pos y]) (by omega) (by omega)⟩, fun y => ⟨by omega, by omega, step (k + 1) (by rw [if_neg y]) (by omega) (by omega)⟩⟩
end C
/-- what a row changes in the reference -/
def FrH (F E F' E' : Int → Int → Int) : Prop := (∀ r, r ≠ 68 → r ≠ 71 → r ≠ 72 → r ≠ 84 → (r < 86 ∨ 95 < r) → E' r = E r) ∧ FS F' ∧ ∀ a k, ¬ (a = 66 ∧ (k = 8 ∨ k = 11 ∨ k = 34 ∨ k = 38 ∨ k = 39 ∨ k = 40 ∨ k = 47 ∨ k = 49 ∨ k = 50 ∨ k = 51 ∨ k = 52 ∨ k = 53 ∨ k = 56)) → F' a k = F a k
theorem FrH.refl {F E : Int → Int → Int} (h : FS F) : FrH F E F E := ⟨fun _ _ _ _ _ _ => rfl, h, fun _ _ _ => rfl⟩
theorem FrH.trans {F E F' E' F'' E'' : Int → Int → Int} (h : FrH F E F' E') (h' : FrH F' E' F'' E'') : FrH F E F'' E'' := ⟨fun r a b c d e => (h'.1 r a b c d e).trans (h.1 r a b c d e), h'.2.1, fun a k q => (h'.2.2 a k q).trans (h.2.2 a k q)⟩
theorem FrN.h {F E F' E' : Int → Int → Int} (h : FrN F E F' E') : FrH F E F' E' := ⟨h.1, h.2.1, fun a k q => h.2.2 a k (by omega)⟩
theorem FrH.str {F E F' E' : Int → Int → Int} {v : Int} (h : FrH F E F' E') : FrH F E (pUp F' 66 11 v) E' := ⟨h.1, h.2.1.up (by decide +kernel), fun a k q => by unfold pUp; rw [if_neg (by omega)]; exact h.2.2 a k q⟩
section R
variable {l : Launch} {G : pG} {bg : Nat × Nat} {n : Nat} {K : Int → Nat × Nat} {Q : Option pV → pM → Prop} {L : Option tLaw} {mood bud len : Int} {tp g : Int → Int}
theorem r_row_35 (hK : KS K) (m0 : 0 ≤ mood ∧ mood ≤ 9) (hlen : 0 ≤ len ∧ len ≤ 400) (hl : LawF g L) (hlo : LwOk L) (hm : g 5 = mood) (hb : g 3 = bud) (m : Nat) : ∀ (i k : Int) (c : Int → Int) (F E : Int → Int → Int), FS F → RowOk g (E 68) c → CInv c → F 66 20 = 0 → (0 ≤ F 66 8 ∧ F 66 8 ≤ 16) → (∀ j, 0 ≤ j → j < len → E 75 j = tp j) → 0 ≤ i → len ≤ i + 3 * m → i + 3 * m < len + 3 → 0 ≤ k → k ≤ i → (0 ≤ F 66 11 ∧ F 66 11 ≤ i) →
    (∀ F' E', FrH F E F' E' → RowOk g (E' 68) (rwS L mood bud tp len m i k c).2 → F' 66 11 + (rwS L mood bud tp len m i k c).1 = F 66 11 + k + m → PW l G 8 mX12_row bg 35 [(0, (2, 66)), (1, (0, len)), (2, (0, (rwS L mood bud tp len m i k c).1)), (3, (0, i + 3 * m))] [] (n, K, F', E') Q) →
    PW l G 8 mX12_row bg 35 [(0, (2, 66)), (1, (0, len)), (2, (0, k)), (3, (0, i))] [] (n, K, F, E) Q := by
  induction m with
  | zero =>
    intro i k c F E hF hr hC h20 hg hj i0 i1 i2 k0 k1 s0 hQ
    have q := hQ F E (FrH.refl hF) hr
    unfold rwS at q
    rw [show i + 3 * ((0 : Nat) : Int) = i by omega] at q
    exact q (by dsimp only; omega)
  | succ m ih =>
    intro i k c F E hF hr hC h20 hg hj i0 i1 i2 k0 k1 s0 hQ
    refine vX12_row_35 66 len k i ?_
    simp only [hF.f66_12, hK.k66, hK.k75]
    refine ⟨fun z => absurd z (by omega), fun _ => ⟨by omega, fun z => ⟨trivial, by omega, fun F2 f2 => ⟨by omega, ?_⟩⟩, fun z => ⟨trivial, trivial, by omega, by omega, by omega, by omega, ?_⟩⟩⟩
    · have w2 : FrH F E F2 E := by rw [f2]; exact (FrH.refl hF).str
      have e11 : F2 66 11 = F 66 11 + 1 := by rw [f2, pUp_s]
      refine ih (i + 3) k c F2 E w2.2.1 hr hC (by rw [w2.2.2 66 20 (by omega)]; exact h20) (by rw [f2, pUp_k (by decide)]; exact hg) hj (by omega) (by omega) (by omega) k0 (by omega) (by omega) fun F' E' w cc e => ?_
      have q := hQ F' E' (w2.trans w) (by unfold rwS; rw [if_pos z]; exact cc) (by unfold rwS; rw [if_pos z]; omega)
      unfold rwS at q
      rw [if_pos z, show i + 3 * ((m + 1 : Nat) : Int) = i + 3 + 3 * m by omega] at q
      exact q
    · rw [hj i (by omega) (by omega), hj (i + 1) (by omega) (by omega), hj (i + 2) (by omega) (by omega)]
      refine r_comeNow (c := c) (L := L) (mood := mood) (bud := bud) hK hF hr.1 hC h20 (hl.congr hr.2) hlo (by rw [hr.2 5 (by decide)]; exact hm) m0 (by rw [hr.2 3 (by decide)]; exact hb) hg fun F1 E1 w1 ro lg _ => ?_
      have hC1 := cinv_come (L := L) (mood := mood) (bud := bud) (r := tp i) (a := tp (i + 1)) (b := tp (i + 2)) hC
      have ro' : RowOk g (E1 68) (sCome c L mood bud (tp i) (tp (i + 1)) (tp (i + 2))).2.1 := ⟨ro.1, fun j hj' => (ro.2 j hj').trans (hr.2 j hj')⟩
      have g8 : 0 ≤ F1 66 8 ∧ F1 66 8 ≤ 16 := by
        rcases lg with ⟨_, q, _⟩ | ⟨_, q, _⟩
        · exact q
        · rw [q]; exact hg
      have e1 : F1 66 11 = F 66 11 := w1.2.2 66 11 (by omega)
      have step : ∀ k' F2, FrH F E F2 E1 → (F2 66 8 = F1 66 8) → (k' = if (sCome c L mood bud (tp i) (tp (i + 1)) (tp (i + 2))).1 < 0 then k else k + 1) → F2 66 11 + k' = F 66 11 + k + 1 → 0 ≤ k' → k' ≤ i + 3 → (0 ≤ F2 66 11 ∧ F2 66 11 ≤ i + 3) → PW l G 8 mX12_row bg 35 [(0, (2, 66)), (1, (0, len)), (2, (0, k')), (3, (0, i + 3))] [] (n, K, F2, E1) Q := fun k' F2 w2 e8 ek es h0 h1 h2 => by
        refine ih (i + 3) k' _ F2 E1 w2.2.1 ro' hC1 (by rw [w2.2.2 66 20 (by omega)]; exact h20) (by rw [e8]; exact g8) (fun j j0 j1 => by rw [w2.1 75 (by decide) (by decide) (by decide) (by decide) (by decide)]; exact hj j j0 j1) (by omega) (by omega) (by omega) h0 h1 h2 fun F' E' w cc e => ?_
        subst ek
        have q := hQ F' E' (w2.trans w) (by unfold rwS; rw [if_neg z]; exact cc) (by unfold rwS; rw [if_neg z]; omega)
        unfold rwS at q
        rw [if_neg z, show i + 3 * ((m + 1 : Nat) : Int) = i + 3 + 3 * m by omega] at q
        exact q
      refine vX12_row_73 66 len k i _ ⟨fun y => ⟨by rw [hK.k66], by omega, fun F2 f2 => ⟨by omega, ?_⟩⟩, fun y => ⟨by omega, by omega, ?_⟩⟩
      · have e2 : F2 66 11 = F 66 11 + 1 := by rw [f2, pUp_s, e1]
        refine step k F2 (by rw [f2]; exact w1.h.str) (by rw [f2, pUp_k (by decide)]) (by rw [if_pos y]) (by omega) (by omega) (by omega) (by omega)
      · exact step (k + 1) F1 w1.h rfl (by rw [if_neg y]) (by omega) (by omega) (by omega) (by omega)
end R
