/-! LAW in the reference -/
def lwT (C : Nat → tKl) (N : Nat) : tLaw := (N, fun c => ((C c).1, (C c).2.2.1, (C c).2.2.2 0))
theorem txc_of {rows code : Int → Int} {len : Int} {C : Nat → tKl} {N : Nat} (n12 : N ≤ 12) (hk : ∀ c : Nat, c < N → KlC true rows code len c (C c)) (ho : ∀ c, c < N → KOk true (C c)) : TxC N rows code len (lwT C N) := by
  refine ⟨rfl, n12, fun c hc => ?_⟩
  obtain ⟨a1, a2, a3, a4⟩ := hk c hc
  obtain ⟨b1, b2, b3, b4⟩ := ho c hc
  rw [lal_t] at b1
  have s0 : (C c).1 = 0 → nSm true (C c).1 = 1 := fun z => by rw [z]; decide
  refine ⟨⟨⟨by show (C c).1 = 0 ∨ (C c).1 = 1; omega, b3, fun z => b4 0 (by decide) (by rw [s0 z]; decide)⟩, fun f e => ?_, fun z => ((a4 0 (by decide) (by decide)).1 (by rw [s0 z]; decide)).2⟩, a1, a3, fun z => ?_⟩
  · have e' : (C c).2.2.1 = some f := e
    rw [e'] at a3
    exact a3.2.2
  · have q := ((a4 0 (by decide) (by decide)).1 (by rw [s0 z]; decide)).1
    rw [show (c : Int) * 6 + (3 + 0) = (c : Int) * 6 + 3 by omega] at q
    exact q
theorem txr_of {g cl op ar : Int → Int} {e : Int} {C : Nat → tKl} {N : Nat} (g1 : g 1 = N) (hc : ∀ k, 0 ≤ k → k < 8 * (N : Int) → g (2 + k) = cl k) (hg : ∀ k, 0 ≤ k → k < e → g (98 + 2 * k) = op k ∧ g (98 + 2 * k + 1) = ar k) (hk : ∀ c : Nat, c < N → KlL cl op ar e c (C c)) : TxR g (lwT C N) := by
  refine ⟨g1, fun c hc' => ?_⟩
  have hc'' : c < N := hc'
  obtain ⟨a1, a2, a3, a4⟩ := hk c hc''
  rw [hc (8 * (c : Int)) (by omega) (by omega), show 2 + 8 * (c : Int) + 5 = 2 + (8 * (c : Int) + 5) by omega, hc (8 * (c : Int) + 5) (by omega) (by omega), show 2 + 8 * (c : Int) + 6 = 2 + (8 * (c : Int) + 6) by omega, hc (8 * (c : Int) + 6) (by omega) (by omega), show 2 + 8 * (c : Int) + 3 = 2 + (8 * (c : Int) + 3) by omega, hc (8 * (c : Int) + 3) (by omega) (by omega), show 2 + 8 * (c : Int) + 4 = 2 + (8 * (c : Int) + 4) by omega, hc (8 * (c : Int) + 4) (by omega) (by omega)]
  refine ⟨a1, ?_, fun z => ⟨?_, ?_⟩⟩
  · show TsR 0 (gOp g) (gAr g) (cl (8 * (c : Int) + 5)) (cl (8 * (c : Int) + 6)) (C c).2.2.1 9
    unfold TsR at *
    cases q : (C c).2.2.1 with
    | none => rw [q] at a3; exact a3
    | some f => rw [q] at a3; exact ⟨a3.1, a3.2.congr fun k k0 k1 => hg k (by omega) (by omega)⟩
  · have := (a4 z).1; omega
  · exact (a4 z).2.congr fun k k0 k1 => hg k (by have := (a4 z).1; omega) (by have := (a4 z).1; omega)
def FrLaw (F E F' E' : Int → Int → Int) : Prop := (∀ r, r ≠ 67 → r ≠ 68 → (r < 76 ∨ 80 < r) → r ≠ 103 → E' r = E r) ∧ FS F' ∧ ∀ a k, ¬ (a = 66 ∧ (k = 0 ∨ k = 1 ∨ (13 ≤ k ∧ k ≤ 21) ∨ k = 23 ∨ k = 26 ∨ k = 29 ∨ k = 30)) → F' a k = F a k
section B
variable {l : Launch} {G : pG} {bg : Nat × Nat} {n : Nat} {K : Int → Nat × Nat} {Q : Option pV → pM → Prop} {at_ e : Int} {M : Nat}
theorem r_law_146 {F E0 : Int → Int → Int} (hK : KS K) (hF : FS F) (a0 : 0 ≤ at_) (a1 : at_ + 900 ≤ 5535) (h23 : F 66 23 = e) (e4 : e ≤ 400) (m : Nat) : ∀ (k : Int) (E : Int → Int → Int), k + m = e → 0 ≤ k → (∀ r, r ≠ 68 → E r = E0 r) → (∀ j, j < at_ + 98 → E 68 j = E0 68 j) → (∀ i, 0 ≤ i → i < k → E 68 (at_ + 98 + 2 * i) = E0 77 i ∧ E 68 (at_ + 98 + 2 * i + 1) = E0 78 i) →
    (∀ E', (∀ r, r ≠ 68 → E' r = E0 r) → (∀ j, j < at_ + 98 → E' 68 j = E0 68 j) → (∀ i, 0 ≤ i → i < e → E' 68 (at_ + 98 + 2 * i) = E0 77 i ∧ E' 68 (at_ + 98 + 2 * i + 1) = E0 78 i) → PW l G 8 mX12_law bg 146 [(0, (2, 66)), (1, (0, at_)), (2, (0, e))] [] (n, K, F, E') Q) →
    PW l G 8 mX12_law bg 146 [(0, (2, 66)), (1, (0, at_)), (2, (0, k))] [] (n, K, F, E) Q := by
  induction m with
  | zero =>
    intro k E ek k0 r1 r2 r3 hQ
    have : k = e := by omega
    subst this
    exact hQ E r1 r2 r3
  | succ m ih =>
    intro k E ek k0 r1 r2 r3 hQ
    refine vX12_law_146 66 at_ k ?_
    simp only [hF.f66_3, hF.f66_24, hF.f66_25, hK.k66, hK.k68, hK.k77, hK.k78, h23]
    refine ⟨trivial, fun z => absurd z (by omega), fun _ => ⟨by omega, by omega, by omega, trivial, by omega, by decide, trivial, by omega, fun E2 e2 => ⟨by omega, trivial, by omega, by omega, fun E3 e3 => ⟨by omega, ?_⟩⟩⟩⟩
    have q2 : E2 68 = rUp (E 68) (at_ + 98 + 2 * k) (E 77 k) := by rw [e2, pUp_row, pRow1, if_pos rfl]
    have q3 : E3 68 = rUp (E2 68) (at_ + 98 + 2 * k + 1) (E 78 k) := by rw [e3, pUp_row, pRow1, if_pos rfl, show E2 78 = E 78 by rw [e2, pUp_an (by decide)]]
    refine ih (k + 1) E3 (by omega) (by omega) (fun r hr => by rw [e3, pUp_an hr, e2, pUp_an hr]; exact r1 r hr) (fun j hj => by rw [q3, rUp_n (by omega), q2, rUp_n (by omega)]; exact r2 j hj) (fun i i0 i1 => ?_) hQ
    by_cases z : i = k
    · subst z
      rw [q3, rUp_n (by omega), rUp_s, q2, rUp_s, r1 77 (by decide), r1 78 (by decide)]
      exact ⟨rfl, rfl⟩
    · rw [q3, rUp_n (by omega), rUp_n (by omega), q2, rUp_n (by omega), rUp_n (by omega)]
      exact r3 i i0 (by omega)
theorem r_law_111 {F E0 : Int → Int → Int} (hK : KS K) (hF : FS F) (a0 : 0 ≤ at_) (a1 : at_ + 900 ≤ 5535) (h21 : F 66 21 = (M : Int)) (m12 : M ≤ 12) (m : Nat) : ∀ (k : Int) (E : Int → Int → Int), k + m = 8 * (M : Int) → 0 ≤ k → (∀ r, r ≠ 68 → E r = E0 r) → (∀ j, j < at_ + 2 → E 68 j = E0 68 j) → (∀ i, 0 ≤ i → i < k → E 68 (at_ + 2 + i) = E0 76 i) →
    (∀ E', (∀ r, r ≠ 68 → E' r = E0 r) → (∀ j, j < at_ + 2 → E' 68 j = E0 68 j) → (∀ i, 0 ≤ i → i < 8 * (M : Int) → E' 68 (at_ + 2 + i) = E0 76 i) → PW l G 8 mX12_law bg 146 [(0, (2, 66)), (1, (0, at_)), (2, (0, 0))] [] (n, K, F, E') Q) →
    PW l G 8 mX12_law bg 111 [(0, (2, 66)), (1, (0, at_)), (2, (0, k))] [] (n, K, F, E) Q := by
  induction m with
  | zero =>
    intro k E ek k0 r1 r2 r3 hQ
    refine vX12_law_111 66 at_ k ?_
    rw [h21]
    exact ⟨by rw [hK.k66], by omega, fun _ => hQ E r1 r2 (fun i i0 i1 => r3 i i0 (by omega)), fun z => absurd (by omega) z⟩
  | succ m ih =>
    intro k E ek k0 r1 r2 r3 hQ
    refine vX12_law_111 66 at_ k ?_
    simp only [hF.f66_3, hF.f66_22, hK.k66, hK.k68, hK.k76, h21]
    refine ⟨trivial, by omega, fun z => absurd z (by omega), fun _ => ⟨by omega, by omega, trivial, by omega, by decide, trivial, by omega, fun E2 e2 => ⟨by omega, ?_⟩⟩⟩
    have q2 : E2 68 = rUp (E 68) (at_ + 2 + k) (E 76 k) := by rw [e2, pUp_row, pRow1, if_pos rfl]
    refine ih (k + 1) E2 (by omega) (by omega) (fun r hr => by rw [e2, pUp_an hr]; exact r1 r hr) (fun j hj => by rw [q2, rUp_n (by omega)]; exact r2 j hj) (fun i i0 i1 => ?_) hQ
    by_cases z : i = k
    · subst z
      rw [q2, rUp_s, r1 76 (by decide)]
    · rw [q2, rUp_n (by omega)]
      exact r3 i i0 (by omega)
theorem r_law {F E : Int → Int → Int} {len t' lc : Int} {T : Nat} {kd nm : Int → Int} {ok : Bool} {C : Nat → tKl} (hK : KS K) (hF : FS F) (hS : ES E) (hE : TkE (E 75) len T kd nm) (h13 : F 66 13 = len) (h68 : E 68 1 = lc) (l0 : 0 ≤ lc) (l5 : lc < 6) (tx : TxG true kd nm 12 0 0 0 ok t' C M)
    (hQ0 : ok = false → ∀ F' E', FrLaw F E F' E' → F' 66 18 = tB (E 75) len t' → F' 66 13 = 0 → F' 66 20 = 0 → F' 66 1 = -6 → E' 67 = rUp (E 67) 6 (w32 (E 67 6 + 1)) → E' 68 = E 68 → Q (some (0, -6)) (n, K, F', E'))
    (hQ1 : ok = true → ∀ F' E', FrLaw F E F' E' → F' 66 18 = -1 → F' 66 13 = 0 → F' 66 20 = 0 → F' 66 1 = 0 → E' 67 = E 67 → E' 68 1 = lc + 1 → (∀ j, j < 135 + 900 * lc → j ≠ 1 → E' 68 j = E 68 j) → TxR (fun j => E' 68 (135 + 900 * lc + j)) (lwT C M) → Q (some (0, lc)) (n, K, F', E')) : PC l G 8 mX12_law bg [(2, 66)] (n, K, F, E) Q := by
  refine vX12_law_0 66 ⟨by rw [hK.k66], fun F1 f1 => ?_⟩
  have hF1 : FS F1 := by rw [f1]; exact hF.up (by decide)
  have k1 : ∀ a k, ¬ (a = 66 ∧ k = 0) → F1 a k = F a k := fun a k q => by rw [f1]; unfold pUp; rw [if_neg q]
  simp only [hF.f66_3, hK.k68, h68]
  refine ⟨trivial, by decide, fun _ => ?_, fun z => absurd z (by omega)⟩
  refine r_beginText (lw := true) rfl hK hF1 hS hE (by rw [k1 66 13 (by omega)]; exact h13) fun F2 w2 h2 h21 => ?_
  refine r_law_33 hE h2 h21 tx (fun o F3 E3 w3 a1 a2 a3 a4 => ?_) (fun o F3 E3 w3 a1 a2 a3 a4 a5 a6 a7 a8 => ?_)
  · have hF3 := w3.2.1
    refine vX12_law_68 66 ⟨by rw [hK.k66], fun z => absurd z (by omega), fun _ => k_tell hK hF3.f66_2 (by decide) (fun z => absurd z (by decide)) (fun _ => vX12_law_81 _ (hQ0 o _ _ ⟨fun r b c d e => ?_, hF3.up (by decide), fun a k q => ?_⟩ ?_ ?_ ?_ pUp_s ?_ ?_))⟩
    · rw [pUp_an b]; exact w3.1 r d e
    · unfold pUp
      rw [if_neg (by omega), w3.2.2 a k (by omega), w2.2.2 a k (by omega), k1 a k (by omega)]
    · rw [pUp_k (by decide)]; exact a2
    · rw [pUp_k (by decide)]; exact a3
    · rw [pUp_k (by decide)]; exact a4
    · rw [pUp_row, pRow1, if_pos rfl, w3.1 67 (by decide) (by decide)]; rfl
    · rw [pUp_an (by decide), w3.1 68 (by decide) (by decide)]
  · have hF3 := w3.2.1
    have e68 : E3 68 = E 68 := w3.1 68 (by decide) (by decide)
    refine vX12_law_68 66 ?_
    simp only [hF3.f66_3, hK.k66, hK.k68, e68, h68, a5]
    refine ⟨trivial, fun _ => ⟨trivial, by decide, by omega, by omega, by omega, by decide, by omega, fun E4 e4 => ?_⟩, fun z => absurd a1 z⟩
    have n4 : ∀ r, r ≠ 68 → E4 r = E3 r := fun r hr => by rw [e4, pUp_an hr]
    have q4 : E4 68 = rUp (E 68) (135 + 900 * lc + 1) M := by rw [e4, pUp_row, pRow1, if_pos rfl, e68]
    refine r_law_111 (E0 := E4) (M := M) hK hF3 (by omega) (by omega) a5 a6 (8 * M) 0 E4 (by omega) (by decide) (fun _ _ => rfl) (fun _ _ => rfl) (fun i i0 i1 => absurd i1 (by omega)) fun E5 r5 s5 t5 => ?_
    refine r_law_146 (E0 := E5) (e := F3 66 23) hK hF3 (by omega) (by omega) rfl a7.2 (F3 66 23).toNat 0 E5 (by omega) (by decide) (fun _ _ => rfl) (fun _ _ => rfl) (fun i i0 i1 => absurd i1 (by omega)) fun E6 r6 s6 t6 => ?_
    have e61 : E6 68 1 = lc := by rw [s6 1 (by omega), s5 1 (by omega), q4, rUp_n (by omega)]; exact h68
    refine vX12_law_146 66 _ _ ?_
    simp only [hF3.f66_3, hK.k66, hK.k68, e61]
    refine ⟨trivial, fun _ => ⟨trivial, by decide, by omega, by decide, fun E7 e7 => ⟨by omega, ?_⟩⟩, fun z => absurd (Int.le_refl _) z⟩
    rw [show lc + 1 - 1 = lc by omega]
    have q7 : E7 68 = rUp (E6 68) 1 (lc + 1) := by rw [e7, pUp_row, pRow1, if_pos rfl]
    have n7 : ∀ r, r ≠ 68 → E7 r = E3 r := fun r hr => by rw [e7, pUp_an hr, r6 r hr, r5 r hr, n4 r hr]
    refine k_tell hK hF3.f66_2 (by omega) (fun _ => vX12_law_222 _ (hQ1 o _ _ ⟨fun r b c d e => ?_, hF3.up (by decide), fun a k q => ?_⟩ ?_ ?_ ?_ pUp_s ?_ ?_ (fun j j1 j2 => ?_) ?_)) (fun z => absurd z (by omega))
    · rw [n7 r c]; exact w3.1 r d e
    · unfold pUp
      rw [if_neg (by omega), w3.2.2 a k (by omega), w2.2.2 a k (by omega), k1 a k (by omega)]
    · rw [pUp_k (by decide)]; exact a2
    · rw [pUp_k (by decide)]; exact a3
    · rw [pUp_k (by decide)]; exact a4
    · rw [n7 67 (by decide)]; exact w3.1 67 (by decide) (by decide)
    · rw [q7, rUp_s]
    · rw [q7, rUp_n j2, s6 j (by omega), s5 j (by omega), q4, rUp_n (by omega)]
    · refine txr_of (cl := E3 76) (op := E3 77) (ar := E3 78) (e := F3 66 23) ?_ (fun k k0 k2 => ?_) (fun k k0 k2 => ?_) a8
      · show E7 68 (135 + 900 * lc + 1) = M
        rw [q7, rUp_n (by omega), s6 _ (by omega), s5 _ (by omega), q4, rUp_s]
      · show E7 68 (135 + 900 * lc + (2 + k)) = E3 76 k
        rw [q7, rUp_n (by omega), s6 _ (by omega), show 135 + 900 * lc + (2 + k) = 135 + 900 * lc + 2 + k by omega, t5 k k0 k2, n4 76 (by decide)]
      · show E7 68 (135 + 900 * lc + (98 + 2 * k)) = E3 77 k ∧ E7 68 (135 + 900 * lc + (98 + 2 * k + 1)) = E3 78 k
        have q := t6 k k0 k2
        rw [q7, rUp_n (by omega), rUp_n (by omega), show 135 + 900 * lc + (98 + 2 * k) = 135 + 900 * lc + 98 + 2 * k by omega, show 135 + 900 * lc + (98 + 2 * k + 1) = 135 + 900 * lc + 98 + 2 * k + 1 by omega, q.1, q.2, r5 77 (by decide), r5 78 (by decide), n4 77 (by decide), n4 78 (by decide)]
        exact ⟨rfl, rfl⟩
end B
