/-! the pair ask: three facts -/
def askC (p : Int × Int) (f a : Int) : Int × Int := if a ≤ 0 then p else if p.1 = -1 then (f, a) else if p.2 ≤ a then p else (f, a)
def askR (p : Int × Int) (f a : Int) : Int × Int := if p.2 ≤ a then p else (f, a)
section M
variable {l : Launch} {G : pG} {bg : Nat × Nat} {n : Nat} {K : Int → Nat × Nat} {F : Int → Int → Int} {Q : Option pV → pM → Prop}
theorem c_ask1 {E : Int → Int → Int} {g : Int → Int} {x f : Int} {p : Int × Int} (hK : KS K) (hF : FS F) (f0 : 0 ≤ f) (f1 : f ≤ 2) (hs : SeenOk (cz (E 3)) (E 5) (E 6) (F 1 4)) (h : ∀ g, PW l G 4 mX11_ask bg 18 [(0, (2, 0)), (1, (0, x)), (2, (0, (askC p f (maS (agI (cz (E 3)) (E 5) (E 6) (F 1 4)) (fun r t => fct (cz (E 3)) r t f) (cz (E 3))).2).1)), (3, (0, (askC p f (maS (agI (cz (E 3)) (E 5) (E 6) (F 1 4)) (fun r t => fct (cz (E 3)) r t f) (cz (E 3))).2).2)), (4, (0, f + 1))] [] (n, K, F, pRow E 51 g) Q) :
    PW l G 4 mX11_ask bg 18 [(0, (2, 0)), (1, (0, x)), (2, (0, p.1)), (3, (0, p.2)), (4, (0, f))] [] (n, K, F, pRow E 51 g) Q := by
  have e3 : pRow E 51 g 3 = E 3 := pRow_ne (by decide)
  have e5 : pRow E 51 g 5 = E 5 := pRow_ne (by decide)
  have e6 : pRow E 51 g 6 = E 6 := pRow_ne (by decide)
  refine vX11_ask_18 0 x p.1 p.2 f ⟨fun z => absurd z (by omega), fun _ => ⟨by rw [hK.k0], c_mostAlike hK hF f0 f1 (by rw [e3, e5, e6]; exact hs) fun g' => ?_⟩⟩
  rw [e3, e5, e6, pRow_row]
  have h' := h g'
  generalize (maS (agI (cz (E 3)) (E 5) (E 6) (F 1 4)) (fun r t => fct (cz (E 3)) r t f) (cz (E 3))).2 = a at h'
  unfold askC at h'
  refine vX11_ask_30 0 x p.1 p.2 f a ⟨fun z => ⟨by omega, ?_⟩, fun z => ⟨fun y => ⟨by omega, ?_⟩, fun y => ⟨fun w => ⟨by omega, ?_⟩, fun w => ⟨by omega, ?_⟩⟩⟩⟩
  · rw [if_pos z] at h'; exact h'
  · rw [if_neg z, if_pos y] at h'; exact h'
  · rw [if_neg z, if_neg y, if_pos w] at h'; exact h'
  · rw [if_neg z, if_neg y, if_neg w] at h'; exact h'
theorem r_ask1 {E : Int → Int → Int} {g f1' f2' : Int → Int} {x f s : Int} {p : Int × Int} (hK : KS K) (hF : FS F) (f0 : 0 ≤ f) (f1 : f ≤ 2) (hs : SeenOk (cz (sh6 (E 68))) f1' f2' s) (hr : SeenR (E 68) f1' f2' s) (h : ∀ g, PW l G 4 mX12_ask bg 34 [(0, (2, 66)), (1, (0, x)), (2, (0, (askR p f (maS (agI (cz (sh6 (E 68))) f1' f2' s) (fun r t => fct (cz (sh6 (E 68))) r t f) (cz (sh6 (E 68)))).2).2)), (3, (0, (askR p f (maS (agI (cz (sh6 (E 68))) f1' f2' s) (fun r t => fct (cz (sh6 (E 68))) r t f) (cz (sh6 (E 68)))).2).1)), (4, (0, f + 1))] [] (n, K, F, pRow E 100 g) Q) :
    PW l G 4 mX12_ask bg 34 [(0, (2, 66)), (1, (0, x)), (2, (0, p.2)), (3, (0, p.1)), (4, (0, f))] [] (n, K, F, pRow E 100 g) Q := by
  have e3 : pRow E 100 g 68 = E 68 := pRow_ne (by decide)
  refine vX12_ask_34 66 x p.2 p.1 f ⟨fun z => absurd z (by omega), fun _ => ⟨by rw [hK.k66], r_mostAlike hK hF f0 f1 (by rw [e3]; exact hs) (by rw [e3]; exact hr) fun g' => ?_⟩⟩
  rw [e3, pRow_row]
  have h' := h g'
  generalize (maS (agI (cz (sh6 (E 68))) f1' f2' s) (fun r t => fct (cz (sh6 (E 68))) r t f) (cz (sh6 (E 68)))).2 = a at h'
  unfold askR at h'
  refine vX12_ask_46 66 x p.2 p.1 f a ⟨fun z => ⟨fun y => ⟨by omega, ?_⟩, fun y => absurd z y⟩, fun z => ⟨fun y => absurd y z, fun y => ⟨by omega, ?_⟩⟩⟩
  · rw [if_pos z] at h'; exact h'
  · rw [if_neg z] at h'; exact h'
end M
theorem inv_scratch {LR : tLR} {G : pG} {n : Nat} {K : Int → Nat × Nat} {F E F' E' : Int → Int → Int} (h : Inv LR G n K F E) (hF : FI F F') (hE : EI E E') : Inv LR G n K (pUp F' 66 0 0) E' := h.ext (hF.up (by decide +kernel) (by decide +kernel) (by decide)) hE
theorem two_ask {LR : tLR} {l : Launch} {G : pG} {x1 : Int} : Pair LR l G 4 mX11_ask (0, 0) 4 mX12_ask (0, 0) [(0, x1)] := by
  intro n K F E h
  have hK := h.KS
  have hF := h.FS
  obtain ⟨hs, hg⟩ := inv_seen h
  have hC := cinv_cz h.2.1.1.2
  have no : ¬ (0 ≤ x1 ∧ x1 ≤ 1) → PostC LR l G 4 mX12_ask (0, 0) [(0, x1)] (n, K, F, E) (some (0, -1)) (n, K, F, E) := fun z => by
    refine ⟨_, rfl, Out.refl, hK, vX12_ask_0 66 x1 ⟨by rw [hK.k66], fun F1 e1 => ⟨fun _ => ?_, fun y => absurd y z⟩⟩⟩
    rw [e1]
    exact ⟨rfl, Out.F, h.zero⟩
  refine vX11_ask_0 0 x1 ⟨fun z => no (by omega), fun z => ⟨fun y => ?_, fun y => no (by omega)⟩⟩
  have q0 := c_ask1 (x := x1) (l := l) (G := G) (n := n) (bg := (0, 0)) (E := E) (g := E 51) (f := 0) (p := (-1, 0)) (Q := PostC LR l G 4 mX12_ask (0, 0) [(0, x1)] (n, K, F, E)) hK hF (by decide) (by decide) hs
  rw [pRow_self] at q0
  refine q0 fun g0 => c_ask1 hK hF (by decide) (by decide) hs fun g1 => c_ask1 hK hF (by decide) (by decide) hs fun g2 => ?_
  clear q0
  have ec : cz (sh6 (E 68)) = cz (E 3) := rel_cz h.2.1.1.1
  have hs' : SeenOk (cz (sh6 (E 68))) (E 5) (E 6) (F 1 4) := by rw [ec]; exact hs
  have l0 := ms_le (A := agI (cz (E 3)) (E 5) (E 6) (F 1 4)) (fc := fun r t => fct (cz (E 3)) r t 0) (c := cz (E 3)) (fun r a b => by have := hC.2.2.2.1 r a b; omega)
  have l1 := ms_le (A := agI (cz (E 3)) (E 5) (E 6) (F 1 4)) (fc := fun r t => fct (cz (E 3)) r t (0 + 1)) (c := cz (E 3)) (fun r a b => by have := hC.2.2.2.1 r a b; omega)
  have l2 := ms_le (A := agI (cz (E 3)) (E 5) (E 6) (F 1 4)) (fc := fun r t => fct (cz (E 3)) r t (0 + 1 + 1)) (c := cz (E 3)) (fun r a b => by have := hC.2.2.2.1 r a b; omega)
  have p1 := ms_pos (A := agI (cz (E 3)) (E 5) (E 6) (F 1 4)) (fc := fun r t => fct (cz (E 3)) r t 0) (fc' := fun r t => fct (cz (E 3)) r t (0 + 1)) (c := cz (E 3))
  have p2 := ms_pos (A := agI (cz (E 3)) (E 5) (E 6) (F 1 4)) (fc := fun r t => fct (cz (E 3)) r t 0) (fc' := fun r t => fct (cz (E 3)) r t (0 + 1 + 1)) (c := cz (E 3))
  have key : ∀ v, (∀ F' E', FI F F' → EI E E' → EI (pRow E 51 g2) E' → PostR LR G v (n, K, F, pRow E 51 g2) (some (0, v)) (n, K, pUp F' 66 0 0, E')) := fun v F' E' hf he ho => ⟨rfl, fun a ha => ⟨rfl, ho.2.2.2 a ha⟩, inv_scratch h hf he⟩
  have eE : pRow E 51 g2 68 = E 68 := pRow_ne (by decide)
  have ei : EI E (pRow E 51 g2) := EI.refl.row (by decide +kernel) (by decide +kernel) (by decide)
  generalize ea0 : (maS (agI (cz (E 3)) (E 5) (E 6) (F 1 4)) (fun r t => fct (cz (E 3)) r t 0) (cz (E 3))).2 = a0 at *
  generalize ea1 : (maS (agI (cz (E 3)) (E 5) (E 6) (F 1 4)) (fun r t => fct (cz (E 3)) r t (0 + 1)) (cz (E 3))).2 = a1 at *
  generalize ea2 : (maS (agI (cz (E 3)) (E 5) (E 6) (F 1 4)) (fun r t => fct (cz (E 3)) r t (0 + 1 + 1)) (cz (E 3))).2 = a2 at *
  have fin : ∀ v, (v = if x1 = 0 then (askC (askC (askC (-1, 0) 0 a0) (0 + 1) a1) (0 + 1 + 1) a2).1 else if ¬ (askC (askC (askC (-1, 0) 0 a0) (0 + 1) a1) (0 + 1 + 1) a2).1 = -1 then (askC (askC (askC (-1, 0) 0 a0) (0 + 1) a1) (0 + 1 + 1) a2).2 else (askC (askC (askC (-1, 0) 0 a0) (0 + 1) a1) (0 + 1 + 1) a2).1) → PostC LR l G 4 mX12_ask (0, 0) [(0, x1)] (n, K, F, E) (some (0, v)) (n, K, F, pRow E 51 g2) := by
    intro v ev
    refine ⟨_, rfl, Out.refl.row (by decide), hK, vX12_ask_0 66 x1 ⟨by rw [hK.k66], fun F1 e1 => ⟨fun w => absurd (by omega) w, fun _ => ?_⟩⟩⟩
    subst e1
    have hF' : FS (pUp F 66 0 0) := hF.up (by decide +kernel)
    refine r_mostAlike (s := F 1 4) (f1' := E 5) (f2' := E 6) hK hF' (by decide) (by decide) (by rw [eE]; exact hs') (by rw [eE]; exact hg) fun b0 => ?_
    rw [eE, ec, ea0]
    refine vX12_ask_20 66 x1 a0 ⟨fun w => ?_, fun w => ?_⟩
    · have m1 : askC (-1, 0) 0 a0 = (0, a0) := by
        unfold askC
        rw [if_neg (by omega), if_pos rfl]
      have m2 : askR (-1, 100000000) 0 a0 = (0, a0) := by
        unfold askR
        rw [if_neg (by dsimp only; omega)]
      have m3 : ∀ p : Int × Int, ∀ f a, p.1 ≠ -1 → 0 < a → askC p f a = askR p f a := by
        intro p f a hp ha
        unfold askC askR
        rw [if_neg (by omega), if_neg hp]
      have m4 : ∀ p : Int × Int, ∀ f a, p.1 ≠ -1 → 0 ≤ f → (askR p f a).1 ≠ -1 := by
        intro p f a hp hf
        unfold askR
        split
        · exact hp
        · dsimp only; omega
      have m5 : askC (askC (askC (-1, 0) 0 a0) (0 + 1) a1) (0 + 1 + 1) a2 = askR (askR (0, a0) (0 + 1) a1) (0 + 1 + 1) a2 := by
        rw [m1, m3 (0, a0) _ _ (by dsimp only; decide) (by omega), m3 _ _ _ (m4 _ _ _ (by dsimp only; decide) (by decide)) (by omega)]
      have m6 : (askR (askR (0, a0) (0 + 1) a1) (0 + 1 + 1) a2).1 ≠ -1 := m4 _ _ _ (m4 _ _ _ (by dsimp only; decide) (by decide)) (by decide)
      rw [m5] at ev
      refine r_ask1 (E := pRow E 51 g2) (p := (-1, 100000000)) (s := F 1 4) (f1' := E 5) (f2' := E 6) hK hF' (by decide) (by decide) (by rw [eE]; exact hs') (by rw [eE]; exact hg) fun b1 => ?_
      rw [eE, ec, ea0, m2]
      refine r_ask1 (E := pRow E 51 g2) (p := (0, a0)) (s := F 1 4) (f1' := E 5) (f2' := E 6) hK hF' (by decide) (by decide) (by rw [eE]; exact hs') (by rw [eE]; exact hg) fun b2 => ?_
      rw [eE, ec, ea1]
      refine r_ask1 (E := pRow E 51 g2) (s := F 1 4) (f1' := E 5) (f2' := E 6) hK hF' (by decide) (by decide) (by rw [eE]; exact hs') (by rw [eE]; exact hg) fun b3 => ?_
      rw [eE, ec, ea2]
      refine vX12_ask_34 66 x1 _ _ _ ⟨fun _ => ⟨fun u => ?_, fun u => ?_⟩, fun u => absurd (by decide) u⟩
      · rw [if_neg u, if_pos m6] at ev
        rw [← ev]
        exact key v F _ FI.refl (ei.row (by decide +kernel) (by decide +kernel) (by decide)) (EI.refl.row (by decide +kernel) (by decide +kernel) (by decide))
      · rw [if_pos u] at ev
        rw [← ev]
        exact key v F _ FI.refl (ei.row (by decide +kernel) (by decide +kernel) (by decide)) (EI.refl.row (by decide +kernel) (by decide +kernel) (by decide))
    · have z1 : askC (askC (askC (-1, 0) 0 a0) (0 + 1) a1) (0 + 1 + 1) a2 = (-1, 0) := by
        have c0 : ∀ f a, a ≤ 0 → askC (-1, 0) f a = (-1, 0) := fun f a ha => by
          unfold askC
          rw [if_pos ha]
        rw [c0 _ _ (by omega), c0 _ _ (by omega), c0 _ _ (by omega)]
      rw [z1] at ev
      have e2 : v = -1 := by
        rw [ev]
        split
        · rfl
        · simp
      subst e2
      exact key (-1) F _ FI.refl (ei.row (by decide +kernel) (by decide +kernel) (by decide)) (EI.refl.row (by decide +kernel) (by decide +kernel) (by decide))
  refine vX11_ask_18 0 x1 _ _ _ ⟨fun _ => ⟨fun u => fin _ ?_, fun u => ⟨fun w => fin _ ?_, fun w => fin _ ?_⟩⟩, fun u => absurd (by decide) u⟩
  · rw [if_pos u]
  · rw [if_neg u, if_pos w]
  · rw [if_neg u, if_neg (fun t => t w)]
