/-! THE GRAMMAR, its smallest piece: a single part; what the class emits -/
def pZ : tPhi := fun _ => none
def pNum (v : Int) : tPhi := fun _ => some v
def pWrd (k : Int) : tPhi := fun w => some (w k)
/-- what a part that isn't a bracket comes to at the token t: whether it can be, the token behind (or the one that can't be), what it is -/
def sg (lw : Bool) (kd nm : Int → Int) (t : Int) : Bool × Int × tPhi :=
  if kd t = 257 then (if nm t ≤ 1000 then (true, t + 1, pNum (nm t)) else (false, t, pZ))
  else if lw = true then (if 259 ≤ kd t ∧ kd t ≤ 267 then (true, t + 1, pWrd (kd t - 259)) else (false, t, pZ))
  else if kd t = 272 then (if kd (t + 1) = 257 ∧ nm (t + 1) ≤ 2 then (true, t + 2, pWrd (nm (t + 1) + 5)) else (false, t + 1, pZ))
  else if kd t = 259 then (if kd (t + 1) = 257 ∧ nm (t + 1) ≤ 3 then (true, t + 2, pWrd (nm (t + 1) + 8)) else (false, t + 1, pZ))
  else if 267 ≤ kd t ∧ kd t < 272 then (true, t + 1, pWrd (kd t - 267)) else (false, t, pZ)
/-- what reading changes in the class, within a sum or a test -/
def FrL (F E F' E' : Int → Int → Int) : Prop := (∀ r, r ≠ 29 → E' r = E r) ∧ FS F' ∧ (∀ a k, ¬ (a = 20 ∧ (k = 3 ∨ k = 4)) → ¬ (a = 27 ∧ k = 3) → F' a k = F a k) ∧ (∀ j, j < F 27 3 → E' 29 j = E 29 j) ∧ F 27 3 ≤ F' 27 3
theorem FrL.refl {F E : Int → Int → Int} (h : FS F) : FrL F E F E := ⟨fun _ _ => rfl, h, fun _ _ _ _ => rfl, fun _ _ => rfl, Int.le_refl _⟩
theorem FrL.trans {F E F' E' F'' E'' : Int → Int → Int} (h : FrL F E F' E') (h' : FrL F' E' F'' E'') : FrL F E F'' E'' := ⟨fun r a => (h'.1 r a).trans (h.1 r a), h'.2.1, fun a k q1 q2 => (h'.2.2.1 a k q1 q2).trans (h.2.2.1 a k q1 q2), fun j hj => (h'.2.2.2.1 j (by have := h.2.2.2.2; omega)).trans (h.2.2.2.1 j hj), Int.le_trans h.2.2.2.2 h'.2.2.2.2⟩
theorem FrL.at {F E F' E' : Int → Int → Int} {k v : Int} (h : FrL F E F' E') (hk : k = 3 ∨ k = 4) : FrL F E (pUp F' 20 k v) E' := by
  refine ⟨h.1, ?_, fun a j q1 q2 => by unfold pUp; rw [if_neg (by omega)]; exact h.2.2.1 a j q1 q2, h.2.2.2.1, by rw [pUp_a (by decide)]; exact h.2.2.2.2⟩
  rcases hk with e | e <;> subst e
  · exact h.2.1.up (by decide +kernel)
  · exact h.2.1.up (by decide +kernel)
section C
variable {l : Launch} {G : pG} {bg : Nat × Nat} {n : Nat} {K : Int → Nat × Nat} {F E : Int → Int → Int} {Q : Option pV → pM → Prop}
theorem c_emit {x y : Int} (hK : KS K) (hF : FS F) (l0 : 0 ≤ F 27 3) (l1 : F 27 3 + 2 ≤ 800) (hQ : ∀ F' E', FrL F E F' E' → F' 27 3 = F 27 3 + 2 → E' 29 (F 27 3) = x → E' 29 (F 27 3 + 1) = y → (∀ k, F' 20 k = F 20 k) → Q (some (0, F 27 3)) (n, K, F', E')) : PC l G 0 mX9_emit bg [(2, 27), (0, x), (0, y)] (n, K, F, E) Q := by
  refine vX9_emit_0 27 x y ?_
  simp only [hF.f27_1, hK.k27, hK.k29]
  refine ⟨trivial, by omega, trivial, fun z => absurd z (by omega), fun _ => ⟨by decide, by omega, fun E1 e1 => ⟨by omega, fun E2 e2 => ⟨by omega, fun F3 f3 => hQ F3 E2 ⟨fun r hr => ?_, ?_, fun a k q1 q2 => ?_, fun j hj => ?_, ?_⟩ ?_ ?_ ?_ fun k => ?_⟩⟩⟩⟩
  · rw [e2, pUp_an hr, e1, pUp_an hr]
  · rw [f3]; exact hF.up (by decide +kernel)
  · rw [f3]; unfold pUp; rw [if_neg q2]
  · rw [e2, pUp_k (by omega), e1, pUp_k (by omega)]
  · rw [f3, pUp_s]; omega
  · rw [f3, pUp_s]
  · rw [e2, pUp_k (by omega), e1, pUp_s]
  · rw [e2, pUp_s]
  · rw [f3, pUp_a (by decide)]
end C
