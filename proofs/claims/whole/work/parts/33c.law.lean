/-! THE PAIR law -/
def FkT (F F' : Int → Int → Int) : Prop := ∀ a k, a ≠ 20 → a ≠ 27 → ¬ (a = 0 ∧ (k = 16 ∨ k = 17)) → ¬ (a = 22 ∧ k = 1) → ¬ (a = 66 ∧ (k = 0 ∨ k = 1 ∨ (13 ≤ k ∧ k ≤ 21) ∨ k = 23 ∨ k = 26 ∨ k = 29 ∨ k = 30)) → F' a k = F a k
def EkT (E E' : Int → Int → Int) : Prop := ∀ r, ¬ (24 ≤ r ∧ r ≤ 29) → r ≠ 49 → r ≠ 67 → (r < 76 ∨ 80 < r) → r ≠ 103 → E' r = E r
theorem EkT.es {E E' : Int → Int → Int} (h : EkT E E') (q : ES E) : ES E' := fun t ht => by
  have z : ∀ t ∈ eTab, ¬ (24 ≤ t.1 ∧ t.1 ≤ 29) ∧ t.1 ≠ 49 ∧ t.1 ≠ 67 ∧ (t.1 < 76 ∨ 80 < t.1) ∧ t.1 ≠ 103 := by decide
  obtain ⟨y1, y2, y3, y4, y5⟩ := z t ht
  rw [h t.1 y1 y2 y3 y4 y5]
  exact q t ht
theorem inv_text {LR : tLR} {G : pG} {n : Nat} {K : Int → Nat × Nat} {F E F' E' : Int → Int → Int} (h : Inv LR G n K F E) (hF : FS F') (fk : FkT F F') (ek : EkT E E') (t1 : F' 22 1 = 0) (t2 : F' 66 13 = 0) (v : F' 66 18 = F' 0 17) (s : F' 66 1 = F' 0 16) (rf : RfR (E' 49) (E' 67)) (o : F' 66 20 = 0) : Inv LR G n K F' E' := by
  have e : ∀ r, ¬ (24 ≤ r ∧ r ≤ 29) → r ≠ 49 → r ≠ 67 → (r < 76 ∨ 80 < r) → r ≠ 103 → E' r = E r := ek
  have f : ∀ a k, a ≠ 20 → a ≠ 27 → a ≠ 0 → a ≠ 22 → a ≠ 66 → F' a k = F a k := fun a k h1 h2 h3 h4 h5 => fk a k h1 h2 (by omega) (by omega) (by omega)
  have f0 : ∀ k, k ≠ 16 → k ≠ 17 → F' 0 k = F 0 k := fun k h1 h2 => fk 0 k (by decide) (by decide) (by omega) (by omega) (by omega)
  have f66 : ∀ k, (2 ≤ k ∧ k ≤ 12) ∨ 31 ≤ k → F' 66 k = F 66 k := fun k h1 => fk 66 k (by decide) (by decide) (by omega) (by omega) (by omega)
  refine inv_build h hF (EkT.es ek h.1.2.2.2.1) (fun a ha => e a (by omega) (by omega) (by omega) (by omega) (by omega)) (fun a ha => funext fun k => f a k (by omega) (by omega) (by omega) (by omega) (by omega)) (fun a ha => e a (by omega) (by omega) (by omega) (by omega) (by omega)) ?_ ?_ ?_ ?_ ⟨t2.trans t1.symm, by omega, fun i i0 i1 => absurd i1 (by omega)⟩ ?_ ⟨s, rf⟩ ⟨?_, v, ?_⟩ ?_ o
  · rw [e 3 (by decide) (by decide) (by decide) (by decide) (by decide), e 4 (by decide) (by decide) (by decide) (by decide) (by decide), e 5 (by decide) (by decide) (by decide) (by decide) (by decide), e 6 (by decide) (by decide) (by decide) (by decide) (by decide), e 7 (by decide) (by decide) (by decide) (by decide) (by decide), e 68 (by decide) (by decide) (by decide) (by decide) (by decide), f 1 4 (by decide) (by decide) (by decide) (by decide) (by decide), f 1 6 (by decide) (by decide) (by decide) (by decide) (by decide), f 1 7 (by decide) (by decide) (by decide) (by decide) (by decide)]
    exact h.2.1
  · rw [e 9 (by decide) (by decide) (by decide) (by decide) (by decide), e 70 (by decide) (by decide) (by decide) (by decide) (by decide), e 54 (by decide) (by decide) (by decide) (by decide) (by decide), e 55 (by decide) (by decide) (by decide) (by decide) (by decide), e 56 (by decide) (by decide) (by decide) (by decide) (by decide), e 57 (by decide) (by decide) (by decide) (by decide) (by decide), e 58 (by decide) (by decide) (by decide) (by decide) (by decide), e 69 (by decide) (by decide) (by decide) (by decide) (by decide), f 52 4 (by decide) (by decide) (by decide) (by decide) (by decide), f 52 6 (by decide) (by decide) (by decide) (by decide) (by decide), f 52 7 (by decide) (by decide) (by decide) (by decide) (by decide)]
    exact h.2.2.1
  · rw [e 9 (by decide) (by decide) (by decide) (by decide) (by decide), e 70 (by decide) (by decide) (by decide) (by decide) (by decide), e 61 (by decide) (by decide) (by decide) (by decide) (by decide), e 62 (by decide) (by decide) (by decide) (by decide) (by decide), e 63 (by decide) (by decide) (by decide) (by decide) (by decide), e 64 (by decide) (by decide) (by decide) (by decide) (by decide), e 65 (by decide) (by decide) (by decide) (by decide) (by decide), e 69 (by decide) (by decide) (by decide) (by decide) (by decide), f 59 4 (by decide) (by decide) (by decide) (by decide) (by decide), f 59 6 (by decide) (by decide) (by decide) (by decide) (by decide), f 59 7 (by decide) (by decide) (by decide) (by decide) (by decide)]
    exact h.2.2.2.1
  · rw [f 10 2 (by decide) (by decide) (by decide) (by decide) (by decide), f 10 3 (by decide) (by decide) (by decide) (by decide) (by decide), e 11 (by decide) (by decide) (by decide) (by decide) (by decide), e 12 (by decide) (by decide) (by decide) (by decide) (by decide), f66 8 (by omega), e 71 (by decide) (by decide) (by decide) (by decide) (by decide), e 72 (by decide) (by decide) (by decide) (by decide) (by decide)]
    exact h.2.2.2.2.1
  · rw [f 41 1 (by decide) (by decide) (by decide) (by decide) (by decide), f 41 3 (by decide) (by decide) (by decide) (by decide) (by decide), f 41 4 (by decide) (by decide) (by decide) (by decide) (by decide), e 42 (by decide) (by decide) (by decide) (by decide) (by decide), e 43 (by decide) (by decide) (by decide) (by decide) (by decide), f66 59 (by omega), f66 61 (by omega), f66 62 (by omega), e 97 (by decide) (by decide) (by decide) (by decide) (by decide), e 98 (by decide) (by decide) (by decide) (by decide) (by decide)]
    exact h.2.2.2.2.2.2.1
  · rw [f66 11 (by omega), f0 18 (by decide) (by decide)]; exact h.2.2.2.2.2.2.2.2.1.1
  · rw [f66 70 (by omega), f 44 5 (by decide) (by decide) (by decide) (by decide) (by decide)]; exact h.2.2.2.2.2.2.2.2.1.2.2
  · rw [f0 7 (by decide) (by decide), f66 74 (by omega), e 19 (by decide) (by decide) (by decide) (by decide) (by decide), e 104 (by decide) (by decide) (by decide) (by decide) (by decide)]
    exact h.2.2.2.2.2.2.2.2.2.1
theorem tke_of {tp : Int → Int} {len : Int} {T : Nat} {E : Int → Int → Int} (h0 : 0 ≤ len ∧ len ≤ 400) (hb : ∀ j, 0 ≤ j → j < len → 0 ≤ tp j ∧ tp j < 256) (h : TkC tp len T E) : TkE tp len T (E 24) (E 26) := ⟨h0, hb, ⟨h.1, h.2.1⟩, h.2.2.1, fun s hs => (h.2.2.2.1 s hs).1, h.2.2.2.2⟩
theorem FrRd.inv {LR : tLR} {G : pG} {n : Nat} {K : Int → Nat × Nat} {F E F' E' : Int → Int → Int} (h : Inv LR G n K F E) (w : FrRd F E F' E') : Inv LR G n K F' E' := by
  refine h.ext ⟨fun _ => w.2.1, fun t ht => ?_, fun a ha => funext fun k => w.2.2 a k (by omega) (by omega)⟩ ⟨fun q t ht => ?_, fun a ha => ?_, fun a ha => w.1 a (by omega) (by omega) (by omega) (by omega) (by omega), fun a ha => w.1 a (by omega) (by omega) (by omega) (by omega) (by omega)⟩
  · have z : ∀ t ∈ iTab, t.1 ≠ 20 ∧ t.1 ≠ 27 := by decide
    have y := z t ht
    exact w.2.2 t.1 t.2 (fun q => y.1 q.1) (fun q => y.2 q.1)
  · have z : ∀ t ∈ eTab, t.1 ≠ 24 ∧ t.1 ≠ 25 ∧ t.1 ≠ 26 ∧ t.1 ≠ 28 ∧ t.1 ≠ 29 := by decide
    have y := z t ht
    rw [w.1 t.1 y.1 y.2.1 y.2.2.1 y.2.2.2.1 y.2.2.2.2]
    exact q t ht
  · have z : ∀ t ∈ iEs, t ≠ 24 ∧ t ≠ 25 ∧ t ≠ 26 ∧ t ≠ 28 ∧ t ≠ 29 := by decide
    have y := z a ha
    exact w.1 a y.1 y.2.1 y.2.2.1 y.2.2.2.1 y.2.2.2.2
theorem Cd.grow0 {code code' : Int → Int} {len len' a nw : Int} {f : tPhi} (h : Cd code len a f nw) (e : ∀ j, 0 ≤ j → j < len → code' j = code j) (h1 : len ≤ len') (h2 : len' ≤ 1000) : Cd code' len' a f nw := by
  obtain ⟨b, m, ⟨a0, ab, bl, l1⟩, hm, hb, hs⟩ := h
  exact ⟨b, m, ⟨a0, ab, by omega, h2⟩, hm, by rw [e b (by omega) (by omega)]; exact hb, hs.congr fun j j0 j1 => e j (by omega) (by omega)⟩
theorem KlC.grow0 {lw : Bool} {rows rows' code code' : Int → Int} {len len' c : Int} {x : tKl} (h : KlC lw rows code len c x) (r : ∀ j, c * 6 ≤ j → j < (c + 1) * 6 → rows' j = rows j) (e : ∀ j, 0 ≤ j → j < len → code' j = code j) (h1 : len ≤ len') (h2 : len' ≤ 1000) : KlC lw rows' code' len' c x := by
  obtain ⟨a1, a2, a3, a4⟩ := h
  refine ⟨(r _ (by omega) (by omega)).trans a1, (r _ (by omega) (by omega)).trans a2, ?_, fun i i0 i3 => ?_⟩
  · unfold TsC at *
    cases q : x.2.2.1 with
    | none => rw [q] at a3; exact (r _ (by omega) (by omega)).trans a3
    | some f =>
      rw [q] at a3
      dsimp only at *
      rw [r _ (by omega) (by omega)]
      exact ⟨a3.1, a3.2.1.grow0 e h1 h2, a3.2.2⟩
  · rw [r _ (by omega) (by omega)]
    exact ⟨fun z => ⟨((a4 i i0 i3).1 z).1.grow0 e h1 h2, ((a4 i i0 i3).1 z).2⟩, (a4 i i0 i3).2⟩
theorem two_law {l : Launch} {G : pG} : Pair lawLR l G 83 mX11_law (3, 876) 8 mX12_law (0, 0) [] := by
  intro n K F E h
  have hK := h.KS
  have hF := h.FS
  have hn := h.1.2.2.1
  have hS := h.1.2.2.2.1
  have hkr := h.2.1
  obtain ⟨g1, lc0, lc6, _⟩ := hkr.2.2.2.1
  have htp := h.2.2.2.2.2.1
  have hrf := h.2.2.2.2.2.2.2.1
  have h18 := h.2.2.2.2.2.2.2.2.1.2.1
  have h20 := h.2.2.2.2.2.2.2.2.2.2
  refine PW.fresh fun fr => vX11_law_0 0 ?_
  simp only [hF.f0_0, hF.f0_8, hF.f0_9, hF.f0_13, hK.k0, hK.k1, hK.k20, hK.k22, hK.k49]
  refine ⟨trivial, trivial, fun z => ⟨trivial, ?_⟩, fun z => ⟨trivial, fun F1 f1 F2 f2 => ⟨trivial, by decide, by decide, fun E3 e3 => ?_⟩⟩⟩
  · -- it is read
    have rd : PC l G 82 mX5_read (0, 0) [(2, 20), (0, if true = true then 1 else 0)] (n, K, F, E) (fun r μ => PW l G 83 mX11_law (3, 876) 36 [(0, (2, 0))] (r.toList ++ [(2, 0)]) μ (PostC lawLR l G 8 mX12_law (0, 0) [] (n, K, F, E))) := by
      refine c_read (lw := true) (tp := E 75) (len := F 22 1) hK hF htp.2.1 rfl (fun j j0 j1 => ((htp.2.2 j j0 j1).1).symm) (fun j j0 j1 => (htp.2.2 j j0 j1).2) (fun Fr Er T t' C N w tk t0 t1 tx => ?_) (fun Fr Er T t' C N w tk t0 t1 tx m2 m12 m3 kl => ?_)
      · -- it can't be
        have hi := w.inv h
        have hFr := w.2.1
        have e75 : Er 75 = E 75 := w.1 75 (by decide) (by decide) (by decide) (by decide) (by decide)
        have tke := tke_of htp.2.1 (fun j j0 j1 => (htp.2.2 j j0 j1).2) tk
        have pos : 0 ≤ tkB (E 75) (F 22 1) t'.toNat := (tke.rng t0 t1).1
        have kf : ∀ a k, a ≠ 20 → a ≠ 27 → Fr a k = F a k := fun a k q1 q2 => w.2.2 a k (by omega) (by omega)
        refine vX11_law_36 0 _ 0 ⟨by rw [hK.k0], fun F1 f1 => ?_⟩
        have hF1 : FS F1 := by rw [f1]; exact hFr.up (by decide)
        simp only [hF1.f0_0, hF1.f0_9, hF1.f0_13, hK.k0, hK.k1, hK.k22, hK.k49]
        have v17 : F1 0 17 = tkB (E 75) (F 22 1) t'.toNat := by rw [f1, pUp_s]
        refine ⟨trivial, trivial, fun F2 f2 => ⟨fun y => absurd y (by omega), fun _ F3 f3 => ⟨trivial, by decide, by decide, fun E4 e4 => ?_⟩⟩⟩
        have k3 : ∀ a k, ¬ (a = 0 ∧ (k = 16 ∨ k = 17)) → ¬ (a = 22 ∧ k = 1) → F3 a k = Fr a k := fun a k q1 q2 => by
          rw [f3, f2, f1]; unfold pUp; rw [if_neg (by omega), if_neg (by omega), if_neg (by omega)]
        have hF3 : FS F3 := by rw [f3, f2]; exact (hF1.up (by decide)).up (by decide)
        have n4 : ∀ r, r ≠ 49 → E4 r = Er r := fun r hr => by rw [e4, pUp_an hr]
        have q49 : E4 49 = rUp (E 49) 4 (w32 (E 49 4 + 1)) := by rw [e4, pUp_row, pRow1, if_pos rfl, w.1 49 (by decide) (by decide) (by decide) (by decide) (by decide)]
        refine ⟨-6, rfl, fun a ha => ⟨rfl, by show E4 a = E a; rw [n4 a (by omega)]; exact w.1 a (by omega) (by omega) (by omega) (by omega) (by omega)⟩, hK, ?_⟩
        have e75' : E4 75 = E 75 := by rw [n4 75 (by decide)]; exact e75
        have e68' : E4 68 = E 68 := by rw [n4 68 (by decide)]; exact w.1 68 (by decide) (by decide) (by decide) (by decide) (by decide)
        have e67' : E4 67 = E 67 := by rw [n4 67 (by decide)]; exact w.1 67 (by decide) (by decide) (by decide) (by decide) (by decide)
        refine r_law (len := F 22 1) (lc := F 1 6) (T := T) hK hF3 (fun t ht => ?_) (by rw [e75']; exact tke) (by rw [k3 66 13 (by omega) (by omega), kf 66 13 (by decide) (by decide)]; exact htp.1) (by rw [e68']; exact g1) lc0 z tx (fun _ F5 E5 w5 s1 s2 s3 s4 s5 s6 => ⟨rfl, fun a ha => ⟨rfl, w5.1 a (by omega) (by omega) (by omega) (by omega)⟩, ?_⟩) (fun q => by cases q)
        · have y : ∀ t ∈ eTab, t.1 ≠ 49 := by decide
          rw [n4 t.1 (y t ht)]
          exact hi.1.2.2.2.1 t ht
        · show Inv lawLR G n K F5 E5
          have c5 : ∀ a k, ¬ (a = 66 ∧ (k = 0 ∨ k = 1 ∨ (13 ≤ k ∧ k ≤ 21) ∨ k = 23 ∨ k = 26 ∨ k = 29 ∨ k = 30)) → F5 a k = F3 a k := w5.2.2
          refine inv_text hi w5.2.1 (fun a k a1 a2 a3 a4 a5 => by rw [c5 a k a5, k3 a k a3 a4]) (fun r b1 b2 b3 b4 b5 => ?_) ?_ s2 ?_ ?_ ?_ s3
          · by_cases q : r = 68
            · rw [q, s6, n4 68 (by decide)]
            · rw [w5.1 r b3 q b4 b5, n4 r b2]
          · rw [c5 22 1 (by omega), f3, pUp_a (by decide), f2, pUp_s]
          · rw [s1, e75', c5 0 17 (by omega), f3, pUp_k (by decide), f2, pUp_a (by decide), v17]; rfl
          · rw [s4, c5 0 16 (by omega), f3, pUp_s]
          · rw [s5, w5.1 49 (by decide) (by decide) (by decide) (by decide), q49, e67']
            exact hrf.2.up (by decide)
      · -- it is a law
        have hi := w.inv h
        have hFr := w.2.1
        have e75 : Er 75 = E 75 := w.1 75 (by decide) (by decide) (by decide) (by decide) (by decide)
        have tke := tke_of htp.2.1 (fun j j0 j1 => (htp.2.2 j j0 j1).2) tk
        have kf : ∀ a k, a ≠ 20 → a ≠ 27 → Fr a k = F a k := fun a k q1 q2 => w.2.2 a k (by omega) (by omega)
        have txo := txg_ok tke 12 0 tx (by decide) (by omega)
        have c16 : Fr 1 6 = F 1 6 := kf 1 6 (by decide) (by decide)
        refine vX11_law_36 0 (-1) 0 ⟨by rw [hK.k0], fun F1 f1 => ?_⟩
        have hF1 : FS F1 := by rw [f1]; exact hFr.up (by decide)
        simp only [hF1.f0_0, hF1.f0_9, hF1.f0_13, hK.k0, hK.k1, hK.k22, hK.k49]
        have v17 : F1 0 17 = -1 := by rw [f1, pUp_s]
        refine ⟨trivial, trivial, fun F2 f2 => ⟨fun _ => ⟨trivial, fun a3 ea3 K4 k4 F5 f5 => ?_⟩, fun y => absurd v17 y⟩⟩
        have hF2 : FS F2 := by rw [f2]; exact hF1.up (by decide)
        have hF5 : FS F5 := by rw [f5]; exact hF2.row (by omega)
        have hK4 : KS K4 := by rw [k4, ea3]; exact hK.push hn
        have o5 : ∀ a k, a ≠ a3 → F5 a k = F2 a k := fun a k q => by rw [f5, pRow_ne q]
        have v272 : F5 27 2 = N := by rw [o5 27 2 (by omega), f2, pUp_a (by decide), f1, pUp_a (by decide)]; exact m2
        have v16 : F5 1 6 = F 1 6 := by rw [o5 1 6 (by omega), f2, pUp_a (by decide), f1, pUp_a (by decide)]; exact c16
        simp only [hF5.f0_0, hF5.f0_8, hF5.f20_1, hK4.k0, hK4.k20, hK4.k27, v272]
        refine ⟨trivial, trivial, by omega, trivial, by omega, by omega, fun a6 ea6 K7 k7 E8 e8 => ?_⟩
        have hK7 : KS K7 := by rw [k7, ea6]; exact hK4.push (by omega)
        have k73 : K7 a3 = (9, 0) := by rw [k7]; unfold pKu; rw [if_neg (by omega), k4]; unfold pKu; rw [if_pos rfl]
        refine ⟨by rw [k73], fun F9 f9 => ?_⟩
        have hF9 : FS F9 := by
          rw [f9, pUp_row]; exact hF5.row (by omega)
        have o9 : ∀ a k, a ≠ a3 → F9 a k = F5 a k := fun a k q => by rw [f9, pUp_a q]
        have v273 : F9 27 3 = Fr 27 3 := by rw [o9 27 3 (by omega), o5 27 3 (by omega), f2, pUp_a (by decide), f1, pUp_a (by decide)]
        simp only [hK7.k27, v273]
        refine ⟨trivial, m3, fun a10 ea10 K11 k11 E12 e12 => ?_⟩
        have hK11 : KS K11 := by rw [k11, ea10]; exact hK7.push (by omega)
        have k113 : K11 a3 = (9, 0) := by rw [k11]; unfold pKu; rw [if_neg (by omega)]; exact k73
        have k116 : K11 a6 = (20, ((N : Int) * 6).toNat) := by rw [k11]; unfold pKu; rw [if_neg (by omega), k7]; unfold pKu; rw [if_pos rfl]
        have k1110 : K11 a10 = (20, (Fr 27 3).toNat) := by rw [k11]; unfold pKu; rw [if_pos rfl]
        refine ⟨by rw [k113], fun F13 f13 => ⟨by rw [hK11.k27], fun F14 f14 F15 f15 => ?_⟩⟩
        have o15 : ∀ a k, a ≠ a3 → F15 a k = F9 a k := fun a k q => by rw [f15, pUp_a q, f14, pUp_a q, f13, pUp_a q]
        have hF15 : FS F15 := by
          rw [f15, f14, f13, pUp_row, pUp_row, pUp_row]; exact ((hF9.row (by omega)).row (by omega)).row (by omega)
        simp only [hF15.f27_0, hF15.f27_1, hK11.k28, hK11.k29, k116, k1110]
        refine ⟨trivial, by decide, trivial, by omega, ⟨by decide, by decide, by omega, by omega, by omega⟩, fun E16 e16 => ⟨trivial, by decide, trivial, by omega, ⟨by decide, by decide, by omega, by omega, by omega⟩, fun E17 e17 => ?_⟩⟩
        simp only [hFr.f1_5, hF5.f0_0, hK11.k0, hK11.k1, hK11.k7, k113, c16, v16]
        refine ⟨by decide, trivial, by omega, Or.inr trivial, fun E18 e18 => ⟨trivial, trivial, by omega, fun F19 f19 => ⟨by omega, fun F20 f20 => ?_⟩⟩⟩
        -- the class's memory now
        have K0 : ∀ a : Int, a < n → K11 a = K a := fun a ha => by
          rw [k11]; unfold pKu; rw [if_neg (by omega), k7]; unfold pKu; rw [if_neg (by omega), k4]; unfold pKu; rw [if_neg (by omega)]
        have k20 : ∀ a k, a ≠ a3 → ¬ (a = 0 ∧ (k = 16 ∨ k = 17)) → ¬ (a = 22 ∧ k = 1) → ¬ (a = 1 ∧ k = 6) → F20 a k = Fr a k := fun a k q q1 q2 q3 => by
          rw [f20]; unfold pUp; rw [if_neg (by omega), f19]; unfold pUp; rw [if_neg (by omega), o15 a k q, o9 a k q, o5 a k q, f2, f1]; unfold pUp; rw [if_neg (by omega), if_neg (by omega)]
        have hF20 : FS F20 := by rw [f20, f19]; exact (hF15.up (by decide)).up (by decide)
        have n20 : ∀ k, F20 a3 k = F15 a3 k := fun k => by rw [f20, pUp_a (by omega), f19, pUp_a (by omega)]
        have w0 : F20 a3 0 = a6 := by rw [n20, f15, pUp_k (by decide), f14, pUp_k (by decide), f13, pUp_k (by decide), f9, pUp_s]
        have w1 : F20 a3 1 = a10 := by rw [n20, f15, pUp_k (by decide), f14, pUp_k (by decide), f13, pUp_s]
        have w2 : F20 a3 2 = N := by rw [n20, f15, pUp_k (by decide), f14, pUp_s, f13, pUp_a (by omega), o9 27 2 (by omega)]; exact v272
        have w3 : F20 a3 3 = Fr 27 3 := by rw [n20, f15, pUp_s, f14, pUp_a (by omega), f13, pUp_a (by omega)]; exact v273
        have s0 : F20 0 16 = 0 := by rw [f20, pUp_s]
        have s1 : F20 0 17 = -1 := by rw [f20, pUp_k (by decide), f19, pUp_a (by decide), o15 0 17 (by omega), o9 0 17 (by omega), o5 0 17 (by omega), f2, pUp_a (by decide)]; exact v17
        have s2 : F20 22 1 = 0 := by rw [f20, pUp_a (by decide), f19, pUp_a (by decide), o15 22 1 (by omega), o9 22 1 (by omega), o5 22 1 (by omega), f2, pUp_s]
        have s3 : F20 1 6 = F 1 6 + 1 := by rw [f20, pUp_a (by decide), f19, pUp_s]
        have n18 : ∀ r : Int, r < n → r ≠ 7 → E18 r = Er r := fun r hr h7 => by
          rw [e18, pUp_an h7, e17, pRow_ne (by omega), e16, pRow_ne (by omega), e12, pRow_ne (by omega), e8, pRow_ne (by omega)]
        have q7 : E18 7 = rUp (E 7) (F 1 6) a3 := by
          rw [e18, pUp_row, pRow1, if_pos rfl, e17, pRow_ne (by omega), e16, pRow_ne (by omega), e12, pRow_ne (by omega), e8, pRow_ne (by omega), w.1 7 (by decide) (by decide) (by decide) (by decide) (by decide)]
        have q6 : ∀ j, 0 ≤ j → j < (N : Int) * 6 → E18 a6 j = Er 28 j := fun j j0 j1 => by
          rw [e18, pUp_an (by omega), e17, pRow_ne (by omega), e16, pRow1, if_pos rfl]
          unfold pCpy
          rw [if_pos (by omega), e12, pRow_ne (by omega), e8, pRow_ne (by omega)]
          congr 1
          omega
        have q10 : ∀ j, 0 ≤ j → j < Fr 27 3 → E18 a10 j = Er 29 j := fun j j0 j1 => by
          rw [e18, pUp_an (by omega), e17, pRow1, if_pos rfl]
          unfold pCpy
          rw [if_pos (by omega), e16, pRow_ne (by omega), e12, pRow_ne (by omega), e8, pRow_ne (by omega)]
          congr 1
          omega
        have er : ∀ r : Int, r < n → r ≠ 7 → ¬ (24 ≤ r ∧ r ≤ 29) → E18 r = E r := fun r hr h7 hb => by
          rw [n18 r hr h7]; exact w.1 r (by omega) (by omega) (by omega) (by omega) (by omega)
        have e75' : E18 75 = E 75 := er 75 (by omega) (by decide) (by decide)
        have e68' : E18 68 = E 68 := er 68 (by omega) (by decide) (by decide)
        rw [show F 1 6 + 1 - 1 = F 1 6 by omega]
        refine ⟨F 1 6, rfl, fun a ha => ⟨K0 a (by omega), er a (by omega) (by omega) (by omega)⟩, hK11, ?_⟩
        refine r_law (len := F 22 1) (lc := F 1 6) (T := T) hK11 hF20 (fun t ht => ?_) (by rw [e75']; exact tke) (by rw [k20 66 13 (by omega) (by omega) (by omega) (by omega), kf 66 13 (by decide) (by decide)]; exact htp.1) (by rw [e68']; exact g1) lc0 z tx (fun q => by cases q) (fun _ F30 E30 w30 u1 u2 u3 u4 u5 u6 u7 u8 => ⟨rfl, fun a ha => ⟨rfl, w30.1 a (by omega) (by omega) (by omega) (by omega)⟩, ?_⟩)
        · have y : ∀ t ∈ eTab, t.1 < 105 ∧ t.1 ≠ 7 ∧ ¬ (24 ≤ t.1 ∧ t.1 ≤ 29) := by decide
          obtain ⟨y1, y2, y3⟩ := y t ht
          rw [er t.1 (by omega) y2 y3]
          exact hS t ht
        · show Inv lawLR G (n + 3) K11 F30 E30
          have f30 : ∀ a k, a ≠ 66 → F30 a k = F20 a k := fun a k q => w30.2.2 a k (by omega)
          have e30 : ∀ r, r ≠ 67 → r ≠ 68 → (r < 76 ∨ 80 < r) → r ≠ 103 → E30 r = E18 r := w30.1
          -- what was there, in the memory that has grown
          have hg : Inv lawLR G (n + 3) K11 (fun a : Int => if a < n then Fr a else F20 a) (fun a : Int => if a < n then Er a else E18 a) := hi.grow fr (by omega) K0 (fun a ha => if_pos ha) (fun a ha => if_pos ha)
          have big : ∀ a : Int, 105 ≤ a → (fun a : Int => if a < n then Fr a else F20 a) a = F20 a := fun a ha => by
            dsimp only
            by_cases q : a < n
            · rw [if_pos q]; exact funext fun k => (k20 a k (by omega) (by omega) (by omega) (by omega)).symm
            · rw [if_neg q]
          have bigE : ∀ a : Int, 105 ≤ a → (fun a : Int => if a < n then Er a else E18 a) a = E18 a := fun a ha => by
            dsimp only
            by_cases q : a < n
            · rw [if_pos q]; exact (n18 a q (by omega)).symm
            · rw [if_neg q]
          have sm : ∀ a : Int, a < 105 → (fun a : Int => if a < n then Fr a else F20 a) a = Fr a := fun a ha => if_pos (by omega)
          have smE : ∀ a : Int, a < 105 → (fun a : Int => if a < n then Er a else E18 a) a = Er a := fun a ha => if_pos (by omega)
          generalize hFg : (fun a : Int => if a < n then Fr a else F20 a) = Fg at *
          generalize hEg : (fun a : Int => if a < n then Er a else E18 a) = Eg at *
          have la : LawAt lawLR K11 Fg Eg a3 (fun j => E30 68 (135 + 900 * F 1 6 + j)) := by
            unfold LawAt
            rw [big a3 (by omega), w0, w1, w2, w3, bigE a6 (by omega), bigE a10 (by omega), k113, k116, k1110]
            refine ⟨by omega, rfl, by omega, by omega, by rw [Int.mul_comm], rfl, lwT C N, txc_of m12 (fun c hc => (kl c hc).grow0 (fun j j0 j1 => q6 j (by omega) (by omega)) q10 (Int.le_refl _) (by omega)) (fun c hc => txo.2 c (by omega) hc), u8⟩
          have kg := hg.2.1
          rw [smE 3 (by decide), smE 4 (by decide), smE 5 (by decide), smE 6 (by decide), smE 7 (by decide), smE 68 (by decide), sm 1 (by decide)] at kg
          have eqE : ∀ r, 0 ≤ r → r < 105 → r ≠ 7 → r ≠ 67 → r ≠ 68 → (r < 76 ∨ 80 < r) → r ≠ 103 → E30 r = Eg r := fun r h0 h1 h2 h3 h4 h5 h6 => by rw [e30 r h3 h4 h5 h6, n18 r (by omega) h2, smE r h1]
          have eqF : ∀ a k, 0 ≤ a → a < 105 → a ≠ 66 → ¬ (a = 0 ∧ (k = 16 ∨ k = 17)) → ¬ (a = 22 ∧ k = 1) → ¬ (a = 1 ∧ k = 6) → F30 a k = Fg a k := fun a k h0 h1 h2 h3 h4 h5 => by rw [f30 a k h2, k20 a k (by omega) h3 h4 h5, sm a h1]
          have eq66 : ∀ k, (2 ≤ k ∧ k ≤ 12) ∨ 31 ≤ k → F30 66 k = Fg 66 k := fun k hk => by rw [w30.2.2 66 k (by omega), k20 66 k (by omega) (by omega) (by omega) (by omega), sm 66 (by decide)]
          have e3 : ∀ r, 0 ≤ r → r < 105 → r ≠ 7 → r ≠ 67 → r ≠ 68 → (r < 76 ∨ 80 < r) → r ≠ 103 → E30 r = Er r := fun r h0 h1 h2 h3 h4 h5 h6 => by rw [e30 r h3 h4 h5 h6, n18 r (by omega) h2]
          have r68 : Er 68 = E 68 := w.1 68 (by decide) (by decide) (by decide) (by decide) (by decide)
          have g68 : ∀ j, j < 135 + 900 * F 1 6 → j ≠ 1 → E30 68 j = Er 68 j := fun j j1 j2 => by rw [u7 j j1 j2, e68', r68]
          have q307 : E30 7 = rUp (Er 7) (F 1 6) a3 := by rw [e30 7 (by decide) (by decide) (by decide) (by decide), q7, w.1 7 (by decide) (by decide) (by decide) (by decide) (by decide)]
          have f16 : ∀ k, k ≠ 6 → F30 1 k = Fr 1 k := fun k hk => by rw [f30 1 k (by decide), k20 1 k (by omega) (by omega) (by omega) (by omega)]
          refine inv_build hg w30.2.1 (fun t ht => ?_) (fun a ha => ?_) (fun a ha => ?_) (fun a ha => ?_) ?_ ?_ ?_ ?_ ?_ ?_ ?_ ?_ ?_ u3
          · have y : ∀ t ∈ eTab, 0 ≤ t.1 ∧ t.1 < 105 ∧ t.1 ≠ 7 ∧ t.1 ≠ 67 ∧ t.1 ≠ 68 ∧ (t.1 < 76 ∨ 80 < t.1) ∧ t.1 ≠ 103 := by decide
            obtain ⟨y1, y2, y3, y4, y5, y6, y7⟩ := y t ht
            rw [eqE t.1 y1 y2 y3 y4 y5 y6 y7]
            exact hg.1.2.2.2.1 t ht
          · rw [e30 a (by omega) (by omega) (by omega) (by omega), n18 a (by omega) (by omega), smE a (by omega)]
          · rw [big a ha]
            exact funext fun k => f30 a k (by omega)
          · rw [bigE a ha]
            exact e30 a (by omega) (by omega) (by omega) (by omega)
          · obtain ⟨⟨r1, r2⟩, ⟨r3, r4⟩, ⟨r5, r6, r7, r8⟩, ⟨r9, r10, r11, r12, r13⟩, ⟨r14, r15, r16⟩⟩ := kg
            rw [c16] at r9 r10 r11 r12 r16
            rw [e3 3 (by decide) (by decide) (by decide) (by decide) (by decide) (by decide) (by decide), e3 4 (by decide) (by decide) (by decide) (by decide) (by decide) (by decide) (by decide), e3 5 (by decide) (by decide) (by decide) (by decide) (by decide) (by decide) (by decide), e3 6 (by decide) (by decide) (by decide) (by decide) (by decide) (by decide) (by decide), f16 4 (by decide), f16 7 (by decide), f30 1 6 (by decide), s3, q307]
            refine ⟨⟨fun j j0 j1 => ?_, r2⟩, ⟨⟨?_, ?_, ?_⟩, r4⟩, ⟨?_, r6, r7, fun k k0 k1 => ?_⟩, ⟨u6, by omega, by omega, fun i i0 i1 => ?_, fun i i0 i1 => ?_⟩, ⟨?_, r15, by omega⟩⟩
            · rw [g68 _ (by omega) (by omega)]; exact r1 j j0 j1
            · rw [g68 3 (by omega) (by decide)]; exact r3.1
            · rw [g68 4 (by omega) (by decide)]; exact r3.2.1
            · rw [g68 5 (by omega) (by decide)]; exact r3.2.2
            · rw [g68 0 (by omega) (by decide)]; exact r5
            · rw [g68 _ (by omega) (by omega), g68 _ (by omega) (by omega)]; exact r8 k k0 k1
            · by_cases q : i = F 1 6
              · rw [q, rUp_s]; exact la
              · rw [rUp_n q]
                exact (r12 i i0 (by omega)).row lawLOk (fun j j0 j1 => g68 _ (by omega) (by omega))
            · by_cases q : i = F 1 6
              · rw [q, rUp_s]; exact Or.inr ⟨_, la⟩
              · rw [rUp_n q]; exact r13 i i0 i1
            · rw [g68 2 (by omega) (by decide)]; exact r14
          · have q := hg.2.2.1
            rw [eqE 9 (by decide) (by decide) (by decide) (by decide) (by decide) (by decide) (by decide), eqE 70 (by decide) (by decide) (by decide) (by decide) (by decide) (by decide) (by decide), eqE 54 (by decide) (by decide) (by decide) (by decide) (by decide) (by decide) (by decide), eqE 55 (by decide) (by decide) (by decide) (by decide) (by decide) (by decide) (by decide), eqE 56 (by decide) (by decide) (by decide) (by decide) (by decide) (by decide) (by decide), eqE 57 (by decide) (by decide) (by decide) (by decide) (by decide) (by decide) (by decide), eqE 58 (by decide) (by decide) (by decide) (by decide) (by decide) (by decide) (by decide), eqE 69 (by decide) (by decide) (by decide) (by decide) (by decide) (by decide) (by decide), eqF 52 4 (by decide) (by decide) (by decide) (by decide) (by decide) (by decide), eqF 52 6 (by decide) (by decide) (by decide) (by decide) (by decide) (by decide), eqF 52 7 (by decide) (by decide) (by decide) (by decide) (by decide) (by decide)]
            exact q
          · have q := hg.2.2.2.1
            rw [eqE 9 (by decide) (by decide) (by decide) (by decide) (by decide) (by decide) (by decide), eqE 70 (by decide) (by decide) (by decide) (by decide) (by decide) (by decide) (by decide), eqE 61 (by decide) (by decide) (by decide) (by decide) (by decide) (by decide) (by decide), eqE 62 (by decide) (by decide) (by decide) (by decide) (by decide) (by decide) (by decide), eqE 63 (by decide) (by decide) (by decide) (by decide) (by decide) (by decide) (by decide), eqE 64 (by decide) (by decide) (by decide) (by decide) (by decide) (by decide) (by decide), eqE 65 (by decide) (by decide) (by decide) (by decide) (by decide) (by decide) (by decide), eqE 69 (by decide) (by decide) (by decide) (by decide) (by decide) (by decide) (by decide), eqF 59 4 (by decide) (by decide) (by decide) (by decide) (by decide) (by decide), eqF 59 6 (by decide) (by decide) (by decide) (by decide) (by decide) (by decide), eqF 59 7 (by decide) (by decide) (by decide) (by decide) (by decide) (by decide)]
            exact q
          · have q := hg.2.2.2.2.1
            rw [eqF 10 2 (by decide) (by decide) (by decide) (by decide) (by decide) (by decide), eqF 10 3 (by decide) (by decide) (by decide) (by decide) (by decide) (by decide), eqE 11 (by decide) (by decide) (by decide) (by decide) (by decide) (by decide) (by decide), eqE 12 (by decide) (by decide) (by decide) (by decide) (by decide) (by decide) (by decide), eq66 8 (by omega), eqE 71 (by decide) (by decide) (by decide) (by decide) (by decide) (by decide) (by decide), eqE 72 (by decide) (by decide) (by decide) (by decide) (by decide) (by decide) (by decide)]
            exact q
          · rw [u2, f30 22 1 (by decide), s2]
            exact ⟨rfl, by decide, fun i i0 i1 => absurd i1 (by omega)⟩
          · have q := hg.2.2.2.2.2.2.1
            rw [eqF 41 1 (by decide) (by decide) (by decide) (by decide) (by decide) (by decide), eqF 41 3 (by decide) (by decide) (by decide) (by decide) (by decide) (by decide), eqF 41 4 (by decide) (by decide) (by decide) (by decide) (by decide) (by decide), eqE 42 (by decide) (by decide) (by decide) (by decide) (by decide) (by decide) (by decide), eqE 43 (by decide) (by decide) (by decide) (by decide) (by decide) (by decide) (by decide), eq66 59 (by omega), eq66 61 (by omega), eq66 62 (by omega), eqE 97 (by decide) (by decide) (by decide) (by decide) (by decide) (by decide) (by decide), eqE 98 (by decide) (by decide) (by decide) (by decide) (by decide) (by decide) (by decide)]
            exact q
          · rw [u4, f30 0 16 (by decide), s0, u5, er 67 (by omega) (by decide) (by decide), e3 49 (by decide) (by decide) (by decide) (by decide) (by decide) (by decide) (by decide), w.1 49 (by decide) (by decide) (by decide) (by decide) (by decide)]
            exact ⟨rfl, hrf.2⟩
          · have q := hg.2.2.2.2.2.2.2.2.1
            rw [u1, f30 0 17 (by decide), s1, eq66 11 (by omega), eqF 0 18 (by decide) (by decide) (by decide) (by decide) (by decide) (by decide), eq66 70 (by omega), eqF 44 5 (by decide) (by decide) (by decide) (by decide) (by decide) (by decide)]
            exact ⟨q.1, rfl, q.2.2⟩
          · have q := hg.2.2.2.2.2.2.2.2.2.1
            rw [eqF 0 7 (by decide) (by decide) (by decide) (by decide) (by decide) (by decide), eq66 74 (by omega), eqE 19 (by decide) (by decide) (by decide) (by decide) (by decide) (by decide) (by decide), eqE 104 (by decide) (by decide) (by decide) (by decide) (by decide) (by decide) (by decide)]
            exact q
    exact rd
  · -- no room
    have e6 : F 1 6 = 6 := by omega
    have k2 : ∀ a k, ¬ (a = 0 ∧ k = 16) → ¬ (a = 22 ∧ k = 1) → F2 a k = F a k := fun a k q1 q2 => by
      rw [f2, f1]; unfold pUp; rw [if_neg (by omega), if_neg (by omega)]
    have hF2 : FS F2 := by rw [f2, f1]; exact (hF.up (by decide)).up (by decide)
    have n3 : ∀ r, r ≠ 49 → E3 r = E r := fun r hr => by rw [e3, pUp_an hr]
    refine ⟨-5, rfl, fun a ha => ⟨rfl, n3 a (by omega)⟩, hK, vX12_law_0 66 ⟨by rw [hK.k66], fun F4 f4 => ?_⟩⟩
    have hF4 : FS F4 := by rw [f4]; exact hF2.up (by decide)
    simp only [hF2.f66_3, hK.k68, n3 68 (by decide), g1, e6]
    refine ⟨trivial, by decide, fun q => absurd trivial q, fun _ F5 f5 => ?_⟩
    have hF5 : FS F5 := by rw [f5]; exact hF4.up (by decide)
    refine k_tell hK hF5.f66_2 (by decide) (fun q => absurd q (by decide)) (fun _ => vX12_law_27 _ ⟨rfl, fun a ha => ⟨rfl, pUp_an (by omega)⟩, ?_⟩)
    show Inv lawLR G n K (pUp F5 66 1 (-5)) (pUp E3 67 (- -5) (w32 (E3 67 (- -5) + 1)))
    have k5 : ∀ a k, ¬ (a = 66 ∧ (k = 0 ∨ k = 1 ∨ k = 13)) → pUp F5 66 1 (-5) a k = F2 a k := fun a k q => by
      unfold pUp; rw [if_neg (by omega), f5, f4]; unfold pUp; rw [if_neg (by omega), if_neg (by omega)]
    refine inv_text h (hF5.up (by decide)) (fun a k a1 a2 a3 a4 a5 => by rw [k5 a k (by omega), k2 a k (by omega) a4]) (fun r b1 b2 b3 b4 b5 => by rw [pUp_an b3, n3 r b2]) ?_ ?_ ?_ ?_ ?_ ?_
    · rw [k5 22 1 (by omega), f2, pUp_a (by decide), f1, pUp_s]
    · rw [pUp_k (by decide), f5, pUp_s]
    · rw [k5 66 18 (by omega), k5 0 17 (by omega), k2 66 18 (by omega) (by omega), k2 0 17 (by omega) (by omega)]; exact h18
    · rw [pUp_s, k5 0 16 (by omega), f2, pUp_s]
    · rw [pUp_an (by decide), pUp_row, pRow1, if_pos rfl, n3 67 (by decide), e3, pUp_row, pRow1, if_pos rfl]
      exact hrf.2.up (by decide)
    · rw [k5 66 20 (by omega), k2 66 20 (by omega) (by omega)]; exact h20
