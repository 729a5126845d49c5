/-! THE WAY OF ONE TUPLE in the reference: frames, advance -/
/-- what changes while frames from f on are walked -/
def FrR (f : Int) (F E F' E' : Int → Int → Int) : Prop := (∀ r, r ≠ 84 → r ≠ 86 → r ≠ 87 → r ≠ 88 → r ≠ 89 → r ≠ 90 → r ≠ 91 → r ≠ 92 → r ≠ 94 → r ≠ 95 → E' r = E r) ∧ (∀ j, j < 3 * f → E' 87 j = E 87 j) ∧ (∀ g, g < f → E' 88 g = E 88 g ∧ E' 89 g = E 89 g ∧ E' 90 g = E 90 g ∧ E' 91 g = E 91 g) ∧ FS F' ∧ ∀ a k, ¬ (a = 66 ∧ (k = 34 ∨ k = 38 ∨ k = 39 ∨ k = 40 ∨ k = 50 ∨ k = 51 ∨ k = 52 ∨ k = 53)) → F' a k = F a k
theorem FrR.refl {f : Int} {F E : Int → Int → Int} (h : FS F) : FrR f F E F E := ⟨fun _ _ _ _ _ _ _ _ _ _ _ => rfl, fun _ _ => rfl, fun _ _ => ⟨rfl, rfl, rfl, rfl⟩, h, fun _ _ _ => rfl⟩
theorem FrR.trans {f : Int} {F E F' E' F'' E'' : Int → Int → Int} (h : FrR f F E F' E') (h' : FrR f F' E' F'' E'') : FrR f F E F'' E'' := by
  obtain ⟨a1, a2, a3, a4, a5⟩ := h
  obtain ⟨b1, b2, b3, b4, b5⟩ := h'
  refine ⟨fun r q1 q2 q3 q4 q5 q6 q7 q8 q9 q10 => (b1 r q1 q2 q3 q4 q5 q6 q7 q8 q9 q10).trans (a1 r q1 q2 q3 q4 q5 q6 q7 q8 q9 q10), fun j hj => (b2 j hj).trans (a2 j hj), fun g hg => ?_, b4, fun a k q => (b5 a k q).trans (a5 a k q)⟩
  obtain ⟨u1, u2, u3, u4⟩ := a3 g hg
  obtain ⟨v1, v2, v3, v4⟩ := b3 g hg
  exact ⟨v1.trans u1, v2.trans u2, v3.trans u3, v4.trans u4⟩
theorem FrR.less {f g : Int} {F E F' E' : Int → Int → Int} (h : FrR f F E F' E') (hg : g ≤ f) : FrR g F E F' E' := by
  obtain ⟨a1, a2, a3, a4, a5⟩ := h
  exact ⟨a1, fun j hj => a2 j (by omega), fun q hq => a3 q (by omega), a4, a5⟩
theorem FrR.up {f : Int} {F E F' E' : Int → Int → Int} {k v : Int} (h : FrR f F E F' E') (hk : k = 34 ∨ k = 38 ∨ k = 39 ∨ k = 40 ∨ k = 50 ∨ k = 51 ∨ k = 52 ∨ k = 53) : FrR f F E (pUp F' 66 k v) E' := by
  obtain ⟨a1, a2, a3, a4, a5⟩ := h
  refine ⟨a1, a2, a3, ?_, fun a j q => ?_⟩
  · rcases hk with e | e | e | e | e | e | e | e <;> subst e <;> exact a4.up (by decide +kernel)
  · unfold pUp
    rw [if_neg (fun z => q ⟨z.1, by rw [z.2]; exact hk⟩)]
    exact a5 a j q
theorem FrR.upE {f : Int} {F E F' E' : Int → Int → Int} {a k v : Int} (h : FrR f F E F' E') (ha : a = 84 ∨ a = 86 ∨ a = 92 ∨ a = 94 ∨ a = 95 ∨ (a = 87 ∧ 3 * f ≤ k) ∨ ((a = 88 ∨ a = 89 ∨ a = 90 ∨ a = 91) ∧ f ≤ k)) : FrR f F E F' (pUp E' a k v) := by
  obtain ⟨a1, a2, a3, a4, a5⟩ := h
  refine ⟨fun r q1 q2 q3 q4 q5 q6 q7 q8 q9 q10 => (pUp_an (by omega)).trans (a1 r q1 q2 q3 q4 q5 q6 q7 q8 q9 q10), fun j hj => ?_, fun g hg => ?_, a4, a5⟩
  · unfold pUp
    rw [if_neg (by omega)]
    exact a2 j hj
  · unfold pUp
    rw [if_neg (by omega), if_neg (by omega), if_neg (by omega), if_neg (by omega)]
    exact a3 g hg
theorem FrR.four {f : Int} {F E F' E' F'' E'' : Int → Int → Int} (h : FrR f F E F' E') (h4 : F4 F' F'') (hE : ∀ r, r ≠ 84 → r ≠ 86 → E'' r = E' r) : FrR f F E F'' E'' := by
  obtain ⟨a1, a2, a3, a4, a5⟩ := h
  refine ⟨fun r q1 q2 q3 q4 q5 q6 q7 q8 q9 q10 => (hE r q1 q2).trans (a1 r q1 q2 q3 q4 q5 q6 q7 q8 q9 q10), ?_, ?_, h4.1, fun a k q => (h4.2 a k (by omega)).trans (a5 a k q)⟩
  · rw [hE 87 (by decide) (by decide)]; exact a2
  · rw [hE 88 (by decide) (by decide), hE 89 (by decide) (by decide), hE 90 (by decide) (by decide), hE 91 (by decide) (by decide)]; exact a3
theorem CtxR.keep {K : Int → Nat × Nat} {F E F' E' : Int → Int → Int} {c : Int → Int} {L : Option tLaw} {og : Int → Int} {fx : Bool} {B : Int → Int} {r0 a0 b0 f : Int} (h : CtxR K F E c L og fx B r0 a0 b0) (fr : FrR f F E F' E') : CtxR K F' E' c L og fx B r0 a0 b0 := by
  obtain ⟨⟨h1, h2⟩, h3, h4, h5, h6, h7, h8⟩ := h
  obtain ⟨a1, a2, a3, a4, a5⟩ := fr
  have e68 : E' 68 = E 68 := a1 68 (by decide) (by decide) (by decide) (by decide) (by decide) (by decide) (by decide) (by decide) (by decide) (by decide)
  have e93 : E' 93 = E 93 := a1 93 (by decide) (by decide) (by decide) (by decide) (by decide) (by decide) (by decide) (by decide) (by decide) (by decide)
  have e96 : E' 96 = E 96 := a1 96 (by decide) (by decide) (by decide) (by decide) (by decide) (by decide) (by decide) (by decide) (by decide) (by decide)
  unfold CtxR
  rw [e68, e93, e96, a5 66 20 (by omega), a5 66 56 (by omega), a5 66 47 (by omega), a5 66 49 (by omega)]
  exact ⟨⟨h1, a4⟩, h3, h4, h5, h6, h7, h8⟩
def RepR (F E : Int → Int → Int) (N : Int) (s : tS) : Prop := (∀ o, 0 ≤ o → o < N → E 92 o = s.1 o) ∧ (∀ i, 0 ≤ i → i < s.2.2.2 1 * 3 → i < 297 → E 94 i = s.2.1 i) ∧ (∀ i, 0 ≤ i → i < s.2.2.2 2 → i < 99 → E 95 i = s.2.2.1 i) ∧ (s.2.2.2 4 = 0 → F 66 50 = s.2.2.2 0) ∧ F 66 51 = s.2.2.2 1 ∧ F 66 52 = s.2.2.2 2 ∧ F 66 53 = s.2.2.2 3
def FrmR (E : Int → Int → Int) (f m : Int) (st : Int → Int) : Prop := (∀ r, 0 ≤ r → r < 3 → E 87 (3 * f + r) = st r) ∧ E 88 f = m
def missN (st : Int → Int) : Int := (if st 0 = 0 then 1 else 0) + (if st 1 = 0 then 1 else 0) + (if st 2 = 0 then 1 else 0)
theorem RepR.same {F E F' E' : Int → Int → Int} {N : Int} {s : tS} (h : RepR F E N s) (h2 : E' 92 = E 92) (h4 : E' 94 = E 94) (h5 : E' 95 = E 95) (k0 : F' 66 50 = F 66 50) (k1 : F' 66 51 = F 66 51) (k2 : F' 66 52 = F 66 52) (k3 : F' 66 53 = F 66 53) : RepR F' E' N s := by
  unfold RepR
  rw [h2, h4, h5, k0, k1, k2, k3]
  exact h
section R
variable {l : Launch} {G : pG} {bg : Nat × Nat} {n : Nat} {K : Int → Nat × Nat} {Q : Option pV → pM → Prop} {c : Int → Int} {L : Option tLaw} {og : Int → Int} {fx : Bool} {B : Int → Int} {r0 a0 b0 bud f : Int}
theorem r_bringResult_2 {F : Int → Int → Int} {st : Int → Int} {s : tS} {T C m : Int} (hK : KS K) (hF : FS F) (g0 : 0 ≤ f) (g1 : f < 3) (hb : SBd s T C) (hC : C ≤ 1000000) (h51 : F 66 51 = s.2.2.2 1) (hlt : s.2.2.2 1 < 99) (w : Nat) : ∀ (i : Int) (E : Int → Int → Int), i + w = 3 → 0 ≤ i → FrmR E f m st → (∀ E', (∀ r, r ≠ 94 → E' r = E r) → (∀ j, (j < 3 * s.2.2.2 1 + i ∨ 3 * s.2.2.2 1 + 3 ≤ j) → E' 94 j = E 94 j) → (∀ j, i ≤ j → j < 3 → E' 94 (3 * s.2.2.2 1 + j) = st j) → Q none (n, K, pUp F 66 51 (s.2.2.2 1 + 1), E')) → PW l G 0 mX12_bringResult bg 2 [(0, (2, 66)), (1, (0, f)), (2, (0, i))] [] (n, K, F, E) Q := by
  have b1 := hb.2.2.1
  induction w with
  | zero =>
    intro i E e i0 hf hQ
    refine vX12_bringResult_2 66 f i ⟨fun _ => ?_, fun z => absurd (by omega) z⟩
    rw [h51]
    refine ⟨by rw [hK.k66], by omega, fun F1 e1 => ?_⟩
    rw [e1]
    exact hQ E (fun _ _ => rfl) (fun _ _ => rfl) (fun j j0 j1 => absurd j1 (by omega))
  | succ w ih =>
    intro i E e i0 hf hQ
    refine vX12_bringResult_2 66 f i ⟨fun z => absurd z (by omega), fun _ => ?_⟩
    simp only [hF.f66_41, hF.f66_54, hK.k66, hK.k87, hK.k94, h51, hf.1 i i0 (by omega)]
    refine ⟨trivial, fun z => absurd z (by omega), fun _ => ⟨by omega, by omega, by omega, by omega, trivial, by omega, by decide, trivial, by omega, fun E3 e3 => ⟨by omega, ?_⟩⟩⟩
    refine ih (i + 1) E3 (by omega) (by omega) ?_ fun E' r' o' n' => hQ E' (fun r hr => ?_) (fun j hj => ?_) (fun j j0 j1 => ?_)
    · rw [e3]
      unfold FrmR
      rw [pUp_an (by decide), pUp_an (by decide)]
      exact hf
    · rw [r' r hr, e3, pUp_an hr]
    · rw [o' j (by omega), e3, pUp_k (by omega)]
    · by_cases q : j = i
      · rw [q, o' _ (by omega), e3, pUp_s]
      · exact n' j (by omega) j1
theorem r_bringResult {F E : Int → Int → Int} {st : Int → Int} {s : tS} {T C m : Int} (hK : KS K) (hF : FS F) (g0 : 0 ≤ f) (g1 : f < 3) (hb : SBd s T C) (hC : C ≤ 1000000) (hf : FrmR E f m st) (hr : RepR F E (c 0) s) (hQ : ∀ F' E', FrR f F E F' E' → RepR F' E' (c 0) (addR st s) → Q none (n, K, F', E')) : PC l G 0 mX12_bringResult bg [(2, 66), (0, f)] (n, K, F, E) Q := by
  obtain ⟨q1, q2, q3, q4, q5, q6, q7⟩ := hr
  have b1 := hb.2.2.1
  refine vX12_bringResult_0 66 f ?_
  by_cases z : s.2.2.2 1 < 99
  · refine r_bringResult_2 (m := m) hK hF g0 g1 hb hC q5 z 3 0 E (by decide) (by decide) hf fun E' r' o' n' => ?_
    have fr0 : FrR f F E F E' := ⟨fun r _ _ _ _ _ _ _ _ h94 _ => r' r h94, fun j _ => by rw [r' 87 (by decide)], fun g _ => by rw [r' 88 (by decide), r' 89 (by decide), r' 90 (by decide), r' 91 (by decide)]; exact ⟨rfl, rfl, rfl, rfl⟩, hF, fun _ _ _ => rfl⟩
    refine hQ _ E' (fr0.up (by decide)) ⟨?_, fun i i0 i1 i2 => ?_, ?_, fun q => ?_, pUp_s, ?_, ?_⟩
    · rw [r' 92 (by decide)]; exact q1
    · have i1' : i < (s.2.2.2 1 + 1) * 3 := by
        have : (addR st s).2.2.2 1 = s.2.2.2 1 + 1 := show rUp s.2.2.2 1 (s.2.2.2 1 + 1) 1 = _ from rUp_s
        rw [this] at i1; exact i1
      show E' 94 i = (if s.2.2.2 1 < 99 then (fun j => if s.2.2.2 1 * 3 ≤ j ∧ j < s.2.2.2 1 * 3 + 3 then st (j - s.2.2.2 1 * 3) else s.2.1 j) else s.2.1) i
      rw [if_pos z]
      by_cases w : s.2.2.2 1 * 3 ≤ i ∧ i < s.2.2.2 1 * 3 + 3
      · rw [if_pos w, ← n' (i - s.2.2.2 1 * 3) (by omega) (by omega)]
        congr 1
        omega
      · rw [if_neg w, o' i (by omega)]
        exact q2 i i0 (by omega) i2
    · rw [r' 95 (by decide)]; exact q3
    · exact (pUp_k (by decide)).trans (q4 q)
    · exact (pUp_k (by decide)).trans q6
    · exact (pUp_k (by decide)).trans q7
  · refine vX12_bringResult_2 66 f 0 ⟨fun w => absurd w (by decide), fun _ => ?_⟩
    rw [q5]
    refine ⟨by rw [hK.k66], fun w => ⟨by omega, fun F2 e2 => ?_⟩, fun w => absurd (by omega) w⟩
    rw [e2]
    refine hQ _ E ((FrR.refl hF).up (by decide)) ⟨q1, fun i i0 i1 i2 => ?_, q3, fun q => (pUp_k (by decide)).trans (q4 q), pUp_s, (pUp_k (by decide)).trans q6, (pUp_k (by decide)).trans q7⟩
    show E 94 i = (if s.2.2.2 1 < 99 then _ else s.2.1) i
    rw [if_neg z]
    exact q2 i i0 (by omega) i2
theorem r_shutIt {F E : Int → Int → Int} {s : tS} {r T C : Int} (hK : KS K) (hF : FS F) (g0 : 0 ≤ f) (g1 : f < 4) (hb : SBd s T C) (hC : C ≤ 1000000) (h90 : E 90 f = r) (hr : RepR F E (c 0) s) (hQ : ∀ F' E', FrR f F E F' E' → RepR F' E' (c 0) (shutS r s) → Q none (n, K, F', E')) : PC l G 0 mX12_shutIt bg [(2, 66), (0, f)] (n, K, F, E) Q := by
  obtain ⟨q1, q2, q3, q4, q5, q6, q7⟩ := hr
  have b2 := hb.2.2.2.1
  refine vX12_shutIt_0 66 f ?_
  simp only [hF.f66_44, hF.f66_55, hK.k66, hK.k90, hK.k95, q6, h90]
  refine ⟨trivial, fun z => ⟨by omega, fun F1 e1 => ?_⟩, fun z => ⟨trivial, by omega, by decide, trivial, by omega, fun E2 e2 => ⟨by omega, fun F3 e3 => ?_⟩⟩⟩
  · rw [e1]
    refine hQ _ E ((FrR.refl hF).up (by decide)) ⟨q1, q2, fun i i0 i1 i2 => ?_, fun q => (pUp_k (by decide)).trans (q4 q), (pUp_k (by decide)).trans q5, pUp_s, (pUp_k (by decide)).trans q7⟩
    show E 95 i = (if s.2.2.2 2 < 99 then rUp s.2.2.1 (s.2.2.2 2) r else s.2.2.1) i
    rw [if_neg (by omega)]
    exact q3 i i0 (by omega) i2
  · rw [e2, e3]
    refine hQ _ _ (((FrR.refl hF).up (by decide)).upE (by omega)) ⟨?_, ?_, fun i i0 i1 i2 => ?_, fun q => (pUp_k (by decide)).trans (q4 q), (pUp_k (by decide)).trans q5, pUp_s, (pUp_k (by decide)).trans q7⟩
    · rw [pUp_an (by decide)]; exact q1
    · rw [pUp_an (by decide)]; exact q2
    · have i1' : i < s.2.2.2 2 + 1 := by
        have : (shutS r s).2.2.2 2 = s.2.2.2 2 + 1 := show rUp s.2.2.2 2 (s.2.2.2 2 + 1) 2 = _ from rUp_s
        rw [this] at i1; exact i1
      show _ = (if s.2.2.2 2 < 99 then rUp s.2.2.1 (s.2.2.2 2) r else s.2.2.1) i
      rw [if_pos (by omega)]
      by_cases e : i = s.2.2.2 2
      · rw [e, pUp_s, rUp_s]
      · rw [pUp_k e, rUp_n e]
        exact q3 i i0 (by omega) i2
end R
