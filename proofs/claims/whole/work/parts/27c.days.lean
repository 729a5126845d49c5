/-! THE PAIR days -/
theorem UR.congr {f s nu : Int} {kd cl un so un' so' : Int → Int} (h : UR f s kd cl nu un so) (h1 : ∀ j, 0 ≤ j → j < 1872 → un' j = un j) (h2 : ∀ j, 0 ≤ j → j < 16 → so' j = so j) : UR f s kd cl nu un' so' := by
  obtain ⟨u1, u2, u3, u4⟩ := h
  refine ⟨u1, u2, u3, fun i i0 i1 => ?_⟩
  obtain ⟨v1, v2, v3, v4⟩ := u4 i i0 i1
  have e : ∀ k, 0 ≤ k → k < 117 → un' (117 * i + k) = un (117 * i + k) := fun k k0 k1 => h1 _ (by omega) (by omega)
  refine ⟨by rw [h2 i i0 (by omega)]; exact v1, by rw [h2 i i0 (by omega)]; exact v2, fun k k0 k1 => by rw [e k k0 k1]; exact v3 k k0 k1, ?_⟩
  exact v4.congr fun k k0 k1 => e k k0 k1
theorem FrJ.ek2 {F E F' E' : Int → Int → Int} (h : FrJ F E F' E') : EK2 E E' := fun a ha => by
  have n : ∀ k, k ∈ actE2 → a ≠ k := fun k hk e => ha (e ▸ hk)
  have n1 := n 36 (by decide)
  have n2 := n 37 (by decide)
  have n3 := n 38 (by decide)
  have n4 := n 39 (by decide)
  have n5 := n 40 (by decide)
  exact h.1 a (n 19 (by decide)) (n 32 (by decide)) (n 33 (by decide)) (by omega)
theorem FrJ.fk2 {F E F' E' : Int → Int → Int} (h : FrJ F E F' E') : FK2 F F' := by
  refine ⟨h.2.1, fun t ht => ?_, fun a ha => funext fun k => h.2.2 a k (by omega)⟩
  have q : actF2.all (fun t => !(decide (t.1 = 30))) = true := by decide
  have := List.all_eq_true.mp q t ht
  simp at this
  exact h.2.2 t.1 t.2 this
theorem FrO.ek2 {F E F' E' : Int → Int → Int} (h : FrO F E F' E') : EK2 E E' := fun a ha => by
  have n : ∀ k, k ∈ actE2 → a ≠ k := fun k hk e => ha (e ▸ hk)
  have n1 := n 86 (by decide)
  have n2 := n 87 (by decide)
  have n3 := n 88 (by decide)
  have n4 := n 89 (by decide)
  have n5 := n 90 (by decide)
  have n6 := n 91 (by decide)
  have n7 := n 92 (by decide)
  have n8 := n 93 (by decide)
  have n9 := n 94 (by decide)
  have n10 := n 95 (by decide)
  exact h.1 a (n 68 (by decide)) (n 71 (by decide)) (n 72 (by decide)) (n 84 (by decide)) (by omega)
theorem FrO.fk2 {F E F' E' : Int → Int → Int} (h : FrO F E F' E') : FK2 F F' := by
  refine ⟨h.2.1, fun t ht => ?_, fun a ha => funext fun k => h.2.2.1 a k (by omega)⟩
  have q : actF2.all (fun t => !(decide (t.1 = 66)) || decide (t.2 = 20)) = true := by decide
  have := List.all_eq_true.mp q t ht
  simp at this
  exact h.2.2.1 t.1 t.2 (by omega)
theorem EK2.row {E E' : Int → Int → Int} {a : Int} {g : Int → Int} (h : EK2 E E') (ha : a ∈ actE2) : EK2 E (pRow E' a g) := fun b hb => (pRow_ne (fun (e : b = a) => hb (by rw [e]; exact ha))).trans (h b hb)
theorem EK2.of3 {E E' : Int → Int → Int} {a b c : Int} (h : ∀ r, r ≠ a → r ≠ b → r ≠ c → E' r = E r) (ha : a ∈ actE2) (hb : b ∈ actE2) (hc : c ∈ actE2) : EK2 E E' := fun r hr => h r (fun e => hr (e ▸ ha)) (fun e => hr (e ▸ hb)) (fun e => hr (e ▸ hc))
theorem two_days {l : Launch} {G : pG} {sd N : Int} : Pair lawLR l G 32 mX11_days (0, 0) 8 mX12_days (0, 0) [(0, sd), (0, N)] := by
  intro n K F E h
  have hK := h.KS
  have hF := h.FS
  have hC := cinv_cz h.2.1.1.2
  obtain ⟨L, hl, hlr⟩ := inv_law h
  obtain ⟨⟨t1, t2, t3⟩, ti⟩ := inv_terms h
  obtain ⟨hk, hi1, hi2, hu, htp, hlt, hst, h3, hd, h20⟩ := h.2
  have hrel := hk.1.1
  have no : ¬ ((0 ≤ sd ∧ sd ≤ 1000000) ∧ 1 ≤ N ∧ N ≤ 60) → ∀ F1, F1 = pUp F 0 16 (-1) → (K 49).1 = 20 ∧ ((0 : Int) ≤ 0 ∧ 0 < ((K 49).2 : Int)) ∧ (0 : Int) ≤ 49 ∧ ∀ E2, E2 = pUp E 49 0 (w32 (E 49 0 + 1)) → PostC lawLR l G 8 mX12_days (0, 0) [(0, sd), (0, N)] (n, K, F, E) (some (0, -1)) (n, K, F1, E2) := fun z F1 f1 => by
    rw [hK.k49]
    refine ⟨rfl, by decide, by decide, fun E2 e2 => ⟨_, rfl, by rw [e2]; exact Out.refl.onF.up (by decide), hK, ?_⟩⟩
    subst f1 e2
    have ek1 : EK2 E E := EK2.refl
    have fin : PC l G 0 mX12_tell (0, 0) [(2, 66), (0, -1)] (n, K, pUp (pUp F 0 16 (-1)) 66 0 0, pUp E 49 0 (w32 (E 49 0 + 1))) (fun r μ => PW l G 8 mX12_days (0, 0) 34 [] (r.toList ++ []) μ (PostR lawLR G (-1) (n, K, pUp F 0 16 (-1), pUp E 49 0 (w32 (E 49 0 + 1))))) := by
      have hG : FS (pUp (pUp F 0 16 (-1)) 66 0 0) := (hF.up (by decide +kernel)).up (by decide +kernel)
      refine k_tell hK hG.f66_2 (by decide) (fun y => absurd y (by decide)) (fun _ => vX12_days_34 _ ⟨rfl, Out.refl.onF.up (by decide), ?_⟩)
      refine inv_act2 lawLOk h ((((FK2.refl hF).up (by decide +kernel) (by decide) (by decide)).up (by decide +kernel) (by decide) (by decide)).up (by decide +kernel) (by decide) (by decide)) ((ek1.up (by decide)).up (by decide)) (c := cz (E 3)) ⟨?_, fun j _ => ?_⟩ ?_ hC ?_ ?_ ⟨?_, ?_⟩ ?_ ⟨?_, ?_, ?_⟩ ?_
      all_goals try simp only [pUp1, rUpA, Int.reduceEq, reduceIte]
      · exact rel_cz hrel
      · exact hu
      · exact hlt
      · exact rfr_up (v := -1) hst.2 (by decide)
      · exact htp
      · exact h3.1
      · exact h3.2.1
      · exact h3.2.2
      · exact hd
    refine vX12_days_0 66 sd N ⟨by rw [hK.k66], fun F1 f1 => ?_⟩
    subst f1
    exact ⟨fun _ => fin, fun y => ⟨fun x => absurd ⟨y, x⟩ z, fun _ => fin⟩⟩
  refine vX11_days_0 0 sd N ?_
  simp only [hF.f0_0, hF.f0_6, hF.f0_13, hF.f1_0, hF.f2_0, hF.f18_0, hK.k0, hK.k1, hK.k2, hK.k3, hK.k18, hK.k19]
  refine ⟨fun z => ⟨trivial, no (by omega)⟩, fun z1 => ⟨fun z => ⟨trivial, no (by omega)⟩, fun z2 => ⟨fun z => ⟨trivial, no (by omega)⟩, fun z3 => ⟨fun z4 => ⟨trivial, trivial, trivial, trivial, by decide, trivial, by decide, trivial, by decide, fun E7 e7 F8 f8 => ?_⟩, fun z => ⟨trivial, no (by omega)⟩⟩⟩⟩⟩
  -- the class
  have n7 : ∀ p, p ≠ 19 → E7 p = E p := fun p hp => by rw [e7, pRow_ne hp]
  have c19 : cz (E7 19) = cz (E 3) := by
    rw [e7, pRow_at]
    refine cz_ext fun k k0 k1 => ?_
    unfold pCpy
    rw [if_pos (by omega), show (0 : Int) + (k - 0) = k by omega]
  have hF8 : FS F8 := by rw [f8]; exact hF.up (by decide +kernel)
  have k8 : ∀ p k, ¬ (p = 0 ∧ k = 7) → F8 p k = F p k := fun p k q => by rw [f8]; unfold pUp; rw [if_neg q]
  have hl8 : LwC K F8 E7 L := by
    refine ⟨?_, hl.2⟩
    rw [k8 1 7 (by omega), k8 1 6 (by omega), n7 7 (by decide)]
    exact hl.1.imp id (fun ⟨L', e, q, w⟩ => ⟨L', e, q, w.keep (fun a ha => funext fun k => k8 a k (by omega)) (fun a ha => n7 a (by omega))⟩)
  refine c_days_52 (L := L) (mood := E 4 2) (bud := E 4 0) (N := N) hK ti.2.2 (by omega) N.toNat 0 sd (cz (E 3)) F8 E7 (by omega) (by decide) (by omega) (by omega) hF8 c19 hC hl8 (by rw [n7 4 (by decide)]) (by rw [n7 4 (by decide)]) (by rw [k8 10 2 (by omega), k8 10 3 (by omega)]; exact ⟨hu.1, hu.2.1⟩) fun F1 E1 s' w1 c1 => ?_
  have ok := dyS_ok (L := L) (mood := E 4 2) (bud := E 4 0) N.toNat sd (cz (E 3)) hC
  generalize ed : dyS L (E 4 2) (E 4 0) N.toNat sd (cz (E 3)) = d at *
  refine vX11_days_52 0 N s' N ⟨fun _ => ?_, fun z => absurd (Int.le_refl N) z⟩
  have e1 : ∀ p, p ≠ 19 → p ≠ 32 → p ≠ 33 → (p < 36 ∨ 40 < p) → E1 p = E p := fun p h1 h2 h3 h4 => (w1.1 p h1 h2 h3 h4).trans (n7 p h1)
  have f1' : ∀ p k, p ≠ 30 → ¬ (p = 0 ∧ k = 7) → F1 p k = F p k := fun p k q1 q2 => (w1.2.2 p k q1).trans (k8 p k q2)
  have d2 : E1 19 2 = d 2 := by rw [← c1, cz_in (by decide) (by decide)]
  have c2 : cz (E 3) 2 = E 3 2 := cz_in (by decide) (by decide)
  have bd := ok.1.2.2.1
  have bd1 := ok.1.2.1
  have bc := hC.2.2.1
  rw [c2] at ok bc
  simp only [w1.2.1.f0_0, w1.2.1.f0_6, w1.2.1.f1_0, w1.2.1.f2_0, w1.2.1.f18_0, hK.k0, hK.k1, hK.k2, hK.k3, hK.k18, hK.k19, d2, e1 3 (by decide) (by decide) (by decide) (by decide)]
  refine ⟨trivial, trivial, trivial, by decide, trivial, trivial, trivial, by decide, fun v ev F2 f2 => ⟨_, rfl, ek2_out ((EK2.refl.row (a := 19) (by decide)).trans (by rw [← e7]; exact w1.ek2)), hK, ?_⟩⟩
  rw [w32_id (by omega) (by omega)] at ev
  have k2 : ∀ p k, p ≠ 30 → ¬ (p = 0 ∧ (k = 7 ∨ k = 16)) → F2 p k = F p k := fun p k q1 q2 => by rw [f2]; unfold pUp; rw [if_neg (by omega)]; exact f1' p k q1 (by omega)
  have hF2 : FS F2 := by rw [f2]; exact w1.2.1.up (by decide +kernel)
  have fkA : FK2 F F2 := by
    rw [f2]
    refine FK2.up ?_ (by decide +kernel) (by decide) (by decide)
    refine FK2.trans ?_ w1.fk2
    rw [f8]
    exact (FK2.refl hF).up (by decide +kernel) (by decide) (by decide)
  have ekA : EK2 E E1 := (EK2.refl.row (a := 19) (by decide)).trans (by rw [← e7]; exact w1.ek2)
  -- the reference
  refine vX12_days_0 66 sd N ⟨by rw [hK.k66], fun F3 f3 => ⟨fun y => absurd (by omega) y, fun _ => ⟨fun _ => ?_, fun y => absurd (by omega) y⟩⟩⟩
  have hF3 : FS F3 := by rw [f3]; exact hF2.up (by decide +kernel)
  refine r_keepOrders hK hF3 fun E4 n4 o4 k4 a4 b4 => ?_
  have e68 : E4 68 = E 68 := (n4 68 (by decide) (by decide) (by decide)).trans (e1 68 (by decide) (by decide) (by decide) (by decide))
  have v8 : F3 66 8 = F 66 8 := by rw [f3, pUp_k (by decide), k2 66 8 (by decide) (by omega)]
  refine vX12_days_39 66 sd N _ ?_
  simp only [hF3.f66_3, hK.k66, hK.k68, e68]
  refine ⟨trivial, trivial, by decide, fun F5 f5 => ?_⟩
  have hF5 : FS F5 := by rw [f5]; exact hF3.up (by decide +kernel)
  have k5 : ∀ p k, ¬ (p = 66 ∧ (k = 0 ∨ k = 72)) → F5 p k = F2 p k := fun p k q => by rw [f5, f3]; unfold pUp; rw [if_neg (by omega), if_neg (by omega)]
  have fkB : FK2 F F5 := by
    rw [f5, f3]
    exact (fkA.up (by decide +kernel) (by decide) (by decide)).up (by decide +kernel) (by decide) (by decide)
  have c68 : cz (sh6 (E 68)) = cz (E 3) := rel_cz hrel
  refine r_days_58 (L := L) (mood := E 4 2) (bud := E 4 0) (N := N) (g := E 68) hK ti.2.2 (by omega) hlr hl.2 t3 t1 N.toNat 0 sd (cz (E 3)) F5 E4 (by omega) (by decide) (by omega) (by omega) hF5 (by rw [f5, pUp_s]) ⟨by rw [e68]; exact c68, fun j _ => by rw [e68]⟩ hC (by rw [k5 66 20 (by omega), k2 66 20 (by decide) (by omega)]; exact h20) (by rw [k5 66 8 (by omega), k2 66 8 (by decide) (by omega), hu.2.2.1]; exact hu.2.1) fun F6 E6 w6 ro => ?_
  rw [ed] at ro
  have rd8 : E6 68 8 = d 2 := by rw [← ro.1, czs_at (j := 8) (by decide) (by decide) (by decide)]
  have rg8 : E 68 8 = E 3 2 := hrel 2 (by decide) (by decide)
  refine vX12_days_58 66 N _ _ N ⟨fun _ => ?_, fun z => absurd (Int.le_refl N) z⟩
  simp only [w6.2.1.f66_3, hK.k66, hK.k68, rd8, rg8]
  rw [w32_id (by omega) (by omega), ← ev]
  refine ⟨trivial, trivial, by decide, ?_⟩
  refine r_days_146 (c := d) hK w6.2.1 ok.1 ro.1 fun E7' n7' a7 d7 => ?_
  have hF7 : FS (pUp F6 66 74 (d 0)) := w6.2.1.up (by decide +kernel)
  refine r_giveBack hK hF7 fun E8 n8 ro8 a8 b8 => ?_
  refine vX12_days_233 66 v ⟨by rw [hK.k66], ?_⟩
  have hF9 : FS (pUp (pUp F6 66 74 (d 0)) 66 8 (F3 66 8)) := hF7.up (by decide +kernel)
  refine k_tell hK hF9.f66_2 (by omega) (fun _ => vX12_days_239 v ⟨rfl, ?_, ?_⟩) (fun y => absurd y (by omega))
  · exact ek2_out ((((EK2.of3 n4 (by decide) (by decide) (by decide)).trans w6.ek2).trans (EK2.of3 (a := 104) (b := 104) (c := 104) (fun r h1 _ _ => n7' r h1) (by decide) (by decide) (by decide))).trans (EK2.of3 n8 (by decide) (by decide) (by decide)))
  show Inv lawLR G n K (pUp (pUp (pUp F6 66 74 (d 0)) 66 8 (F3 66 8)) 66 1 0) E8
  have ekZ : EK2 E E8 := ekA.trans ((((EK2.of3 n4 (by decide) (by decide) (by decide)).trans w6.ek2).trans (EK2.of3 (a := 104) (b := 104) (c := 104) (fun r h1 _ _ => n7' r h1) (by decide) (by decide) (by decide))).trans (EK2.of3 n8 (by decide) (by decide) (by decide)))
  have fkZ : FK2 F (pUp (pUp (pUp F6 66 74 (d 0)) 66 8 (F3 66 8)) 66 1 0) := (((fkB.trans w6.fk2).up (by decide +kernel) (by decide) (by decide)).up (by decide +kernel) (by decide) (by decide)).up (by decide +kernel) (by decide) (by decide)
  have kA : ∀ p k, p ≠ 66 → pUp (pUp (pUp F6 66 74 (d 0)) 66 8 (F3 66 8)) 66 1 0 p k = F2 p k := fun p k q => by rw [pUp_a q, pUp_a q, pUp_a q, w6.2.2.1 p k (by omega), k5 p k (by omega)]
  have kB : ∀ p k, p ≠ 66 → p ≠ 30 → ¬ (p = 0 ∧ (k = 7 ∨ k = 16)) → pUp (pUp (pUp F6 66 74 (d 0)) 66 8 (F3 66 8)) 66 1 0 p k = F p k := fun p k q1 q2 q3 => by rw [kA p k q1, k2 p k q2 q3]
  have kC : ∀ k, (k = 59 ∨ k = 61 ∨ k = 62 ∨ k = 18 ∨ k = 70 ∨ k = 11 ∨ k = 13) → pUp (pUp (pUp F6 66 74 (d 0)) 66 8 (F3 66 8)) 66 1 0 66 k = F 66 k := fun k q => by rw [pUp_k (by omega), pUp_k (by omega), pUp_k (by omega), w6.2.2.1 66 k (by omega), k5 66 k (by omega), k2 66 k (by decide) (by omega)]
  have v07 : pUp (pUp (pUp F6 66 74 (d 0)) 66 8 (F3 66 8)) 66 1 0 0 7 = 1 := by rw [kA 0 7 (by decide), f2, pUp_k (by decide), w1.2.2 0 7 (by decide), f8, pUp_s]
  have v016 : pUp (pUp (pUp F6 66 74 (d 0)) 66 8 (F3 66 8)) 66 1 0 0 16 = 0 := by rw [kA 0 16 (by decide), f2, pUp_s]
  have eC : ∀ p, p < 66 → E8 p = E1 p := fun p hp => by rw [n8 p (by omega) (by omega) (by omega), n7' p (by omega), w6.1 p (by omega) (by omega) (by omega) (by omega) (by omega), n4 p (by omega) (by omega) (by omega)]
  have eD : ∀ p, (p = 67 ∨ p = 75 ∨ p = 97 ∨ p = 98) → E8 p = E p := fun p hp => by rw [n8 p (by omega) (by omega) (by omega), n7' p (by omega), w6.1 p (by omega) (by omega) (by omega) (by omega) (by omega), n4 p (by omega) (by omega) (by omega), e1 p (by omega) (by omega) (by omega) (by omega)]
  have eE : ∀ p, p < 66 → p ≠ 19 → p ≠ 32 → p ≠ 33 → (p < 36 ∨ 40 < p) → E8 p = E p := fun p h0 h1 h2 h3 h4 => by rw [eC p h0, e1 p h1 h2 h3 h4]
  have kept : (cz fun j => E7' 71 (117 * 17 + j)) = cz (E 3) := by
    rw [n7' 71 (by decide), ← c68, ← e1 68 (by decide) (by decide) (by decide) (by decide), ← k4]
    refine cz_ext fun k k0 k1 => ?_
    exact w6.2.2.2 _ (by omega) (by omega)
  refine inv_act2 lawLOk h fkZ ekZ (c := cz (E 3)) ⟨?_, fun j hj => ?_⟩ ?_ hC ?_ ?_ ⟨?_, ?_⟩ ?_ ⟨?_, ?_, ?_⟩ ?_
  · rw [ro8.1]; exact kept
  · rw [ro8.2 j hj, n7' 68 (by decide)]; exact ro.2 j hj
  · rw [eE 3 (by decide) (by decide) (by decide) (by decide) (by decide)]
  · rw [kB 10 2 (by decide) (by decide) (by omega), kB 10 3 (by decide) (by decide) (by omega), pUp_k (by decide), pUp_s, v8, eE 11 (by decide) (by decide) (by decide) (by decide) (by decide), eE 12 (by decide) (by decide) (by decide) (by decide) (by decide)]
    refine hu.congr (fun j j0 j1 => ?_) (fun j j0 j1 => ?_)
    · rw [a8 j j0 j1, n7' 73 (by decide), w6.1 73 (by decide) (by decide) (by decide) (by decide) (by decide), a4 j j0 j1, e1 71 (by decide) (by decide) (by decide) (by decide)]
    · rw [b8 j j0 j1, n7' 74 (by decide), w6.1 74 (by decide) (by decide) (by decide) (by decide) (by decide), b4 j j0 j1, e1 72 (by decide) (by decide) (by decide) (by decide)]
  · rw [kB 41 1 (by decide) (by decide) (by omega), kB 41 3 (by decide) (by decide) (by omega), kB 41 4 (by decide) (by decide) (by omega), kC 59 (by omega), kC 61 (by omega), kC 62 (by omega), eE 42 (by decide) (by decide) (by decide) (by decide) (by decide), eE 43 (by decide) (by decide) (by decide) (by decide) (by decide), eD 97 (by decide), eD 98 (by decide)]
    exact hlt
  · rw [v016, pUp_s]
  · rw [eE 49 (by decide) (by decide) (by decide) (by decide) (by decide), eD 67 (by decide)]
    exact hst.2
  · rw [kB 22 1 (by decide) (by decide) (by omega), kC 13 (by omega), eE 23 (by decide) (by decide) (by decide) (by decide) (by decide), eD 75 (by decide)]
    exact htp
  · rw [kC 11 (by omega), kB 0 18 (by decide) (by decide) (by omega)]
    exact h3.1
  · rw [kC 18 (by omega), kB 0 17 (by decide) (by decide) (by omega)]
    exact h3.2.1
  · rw [kC 70 (by omega), kB 44 5 (by decide) (by decide) (by omega)]
    exact h3.2.2
  · rw [v07, pUp_k (by decide), pUp_k (by decide), pUp_s, eC 19 (by decide)]
    have rr : ∀ k, 0 ≤ k → k < 117 → E1 19 k = d k := fun k k0 k1 => by rw [← c1, cz_in k0 k1]
    have b0 := ok.1.1
    have e104 : E8 104 = E7' 104 := n8 104 (by decide) (by decide) (by decide)
    refine Or.inr ⟨rfl, (rr 0 (by decide) (by decide)).symm, b0, fun o o0 o1 => ?_, fun r r0 r1 => ?_⟩
    · rw [e104, a7 o o0 o1, rr (17 + 6 * o) (by omega) (by omega)]
    · rw [e104, d7 r r0 r1, rr (9 + r) (by omega) (by omega)]
