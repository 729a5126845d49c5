/-! ORDERS in the reference, from begin to end -/
theorem UR.congr2 {f s nu : Int} {kd cl kd' cl' un so un' so' : Int → Int} (h : UR f s kd cl nu un so) (h1 : ∀ j, 0 ≤ j → j < 1872 → un' j = un j) (h2 : ∀ j, 0 ≤ j → j < 16 → so' j = so j) (h3 : ∀ j, 0 ≤ j → j < 16 → kd' j = kd j) (h4 : ∀ j, 0 ≤ j → j < 1872 → cl' j = cl j) : UR f s kd' cl' nu un' so' := by
  obtain ⟨u1, u2, u3, u4⟩ := h.congr h1 h2
  refine ⟨u1, u2, u3, fun i i0 i1 => ?_⟩
  obtain ⟨v1, v2, v3, v4⟩ := u4 i i0 i1
  exact ⟨by rw [h3 _ (by omega) (by omega)]; exact v1, v2, fun k k0 k1 => by rw [h4 _ (by omega) (by omega)]; exact v3 k k0 k1, v4⟩
theorem inv_act3 {LR : tLR} {G : pG} {n : Nat} {K : Int → Nat × Nat} {F E F' E' : Int → Int → Int} {c : Int → Int} (hL : LOk LR) (h : Inv LR G n K F E) (hF : FS F') (es : ES E') (en : ∀ a, a < 0 → E' a = E a) (f3 : ∀ a, 105 ≤ a → F' a = F a) (e3 : ∀ a, 105 ≤ a → E' a = E a) (ek : ∀ a, (a = 4 ∨ a = 5 ∨ a = 6 ∨ a = 7 ∨ a = 9 ∨ a = 70 ∨ a = 69 ∨ (54 ≤ a ∧ a ≤ 65)) → E' a = E a) (fk : ∀ a k, (a = 1 ∨ a = 52 ∨ a = 59) → F' a k = F a k) (rk : RowOk (E 68) (E' 68) c) (ck : cz (E' 3) = c) (ci : CInv c)
    (ur : UR (F' 10 2) (F' 10 3) (E' 11) (E' 12) (F' 66 8) (E' 71) (E' 72)) (lt : LtR (F' 41 1) (E' 42) (F' 41 3) (E' 43) (F' 41 4) (F' 66 59) (E' 97) (F' 66 61) (E' 98) (F' 66 62)) (st : F' 66 1 = F' 0 16 ∧ RfR (E' 49) (E' 67))
    (tp : TpR (F' 22 1) (E' 23) (F' 66 13) (E' 75)) (s2 : F' 66 11 = F' 0 18 ∧ F' 66 18 = F' 0 17 ∧ F' 66 70 = F' 44 5) (dr : DrR (F' 0 7) (E' 19) (F' 66 74) (E' 104)) (h20 : F' 66 20 = 0) : Inv LR G n K F' E' := by
  have hl : ∀ t r r', (∀ j, 0 ≤ j → j < 900 → r' j = r j) → LawAt LR K F E t r → LawAt LR K F E t r' := fun t r r' e q => q.row hL e
  have hk := h.2.1
  refine inv_build h hF es en f3 e3 ?_ ?_ ?_ ur tp lt st s2 dr h20
  · have r3 : ∀ j, (j < 6 ∨ 123 ≤ j) → E' 68 j = E 68 j := rk.2
    rw [ek 4 (by decide), ek 5 (by decide), ek 6 (by decide), ek 7 (by decide), fk 1 4 (by decide), fk 1 6 (by decide), fk 1 7 (by decide)]
    refine hk.chg hl (fun j j0 => r3 j (by omega)) ⟨rel_of (rk.1.trans ck.symm), cinv_of (ck ▸ ci)⟩ ?_ ?_ (r3 1 (by decide)) ?_
    · rw [r3 3 (by decide), r3 4 (by decide), r3 5 (by decide)]
      exact hk.2.1
    · obtain ⟨h2, h3, h4, h5⟩ := hk.2.2.1
      refine ⟨(r3 0 (by decide)).trans h2, h3, h4, fun k a b => ?_⟩
      rw [r3 _ (by omega), r3 _ (by omega)]
      exact h5 k a b
    · rw [r3 2 (by decide)]
      exact hk.2.2.2.2
  · rw [ek 9 (by decide), ek 70 (by decide), ek 54 (by decide), ek 55 (by decide), ek 56 (by decide), ek 57 (by decide), ek 58 (by decide), ek 69 (by decide), fk 52 4 (by decide), fk 52 6 (by decide), fk 52 7 (by decide)]
    exact h.2.2.1
  · rw [ek 9 (by decide), ek 70 (by decide), ek 61 (by decide), ek 62 (by decide), ek 63 (by decide), ek 64 (by decide), ek 65 (by decide), ek 69 (by decide), fk 59 4 (by decide), fk 59 6 (by decide), fk 59 7 (by decide)]
    exact h.2.2.2.1
def FrZr (F E F' E' : Int → Int → Int) : Prop := (∀ r, (r < 67 ∨ 68 < r) → (r < 71 ∨ 74 < r) → (r < 76 ∨ 80 < r) → (r < 84 ∨ 95 < r) → r ≠ 103 → E' r = E r) ∧ FS F' ∧ ∀ a k, ¬ (a = 66 ∧ (k = 0 ∨ k = 1 ∨ k = 8 ∨ (13 ≤ k ∧ k ≤ 21) ∨ k = 23 ∨ k = 26 ∨ k = 29 ∨ k = 30 ∨ k = 34 ∨ (38 ≤ k ∧ k ≤ 40) ∨ (47 ≤ k ∧ k ≤ 56) ∨ (68 ≤ k ∧ k ≤ 71))) → F' a k = F a k
section R
variable {l : Launch} {G : pG} {bg : Nat × Nat} {n : Nat} {K : Int → Nat × Nat} {Q : Option pV → pM → Prop} {L : Option tLaw} {mood bud : Int}
theorem lgR_same {s : Int} {so un so' un' : Int → Int} (s1 : s ≤ 16) (h1 : ∀ j, 0 ≤ j → j < 1872 → un' j = un j) (h2 : ∀ j, 0 ≤ j → j < 16 → so' j = so j) : lgR s so' un' = lgR s so un := by
  unfold lgR
  refine List.map_congr_left fun i hi => ?_
  rw [List.mem_range] at hi
  rw [h2 i (by omega) (by omega)]
  refine Prod.ext rfl (cz_ext fun k k0 k1 => ?_)
  exact h1 _ (by omega) (by omega)
theorem r_orders {F E : Int → Int → Int} {len t' : Int} {T N : Nat} {kd nm : Int → Int} {ok : Bool} {C : Nat → tKl} {s0 : tOr} (hK : KS K) (hF : FS F) (hS : ES E) (hE : TkE (E 75) len T kd nm) (h13 : F 66 13 = len) (tx : TxG false kd nm 12 0 0 0 ok t' C N)
    (hko : ok = true → ∀ c, c < N → KOk false (C c)) (ph : ok = true → ∀ c, c < N → ∀ j, 0 ≤ j → j < 3 → j < nSm false (C c).1 → PhOk ((C c).2.2.2 j) 12) (ht : ok = true → ∀ c, c < N → ∀ f, (C c).2.2.1 = some f → Tst f)
    (hc : cz (sh6 (E 68)) = s0.1) (hlg : lgR (F 66 8) (E 72) (E 71) = s0.2.1) (h8 : 0 ≤ F 66 8 ∧ F 66 8 ≤ 16) (hd : s0.2.2.1 = 0) (hla : s0.2.2.2 = -1) (so : SOk 0 s0) (hl : LawF (E 68) L) (hlo : LwOk L) (hm : E 68 5 = mood) (m0 : 0 ≤ mood ∧ mood ≤ 9) (hbu : E 68 3 = bud)
    (hA : ok = false → ∀ F' E', FrZr F E F' E' → F' 66 18 = tB (E 75) len t' → F' 66 13 = 0 → F' 66 20 = 0 → F' 66 70 = -1 → F' 66 1 = -6 → E' 67 = rUp (E 67) 6 (w32 (E 67 6 + 1)) → E' 68 = E 68 → (E' 71 = E 71 ∧ E' 72 = E 72) → F' 66 8 = F 66 8 → Q (some (0, -6)) (n, K, F', E'))
    (hB : ok = true → ∀ s', (oAll L mood bud C N 0 s0).1 = some s' → ∀ F' E', FrZr F E F' E' → F' 66 18 = -1 → F' 66 13 = 0 → F' 66 20 = 0 → F' 66 70 = -1 → F' 66 1 = 0 → E' 67 = E 67 → RowOk (E 68) (E' 68) s'.1 → lgR (F' 66 8) (E' 72) (E' 71) = s'.2.1 → (0 ≤ F' 66 8 ∧ F' 66 8 ≤ 16) → 0 ≤ s'.2.2.1 → Q (some (0, s'.2.2.1)) (n, K, F', E'))
    (hC : ok = true → (oAll L mood bud C N 0 s0).1 = none → ∀ F' E', FrZr F E F' E' → F' 66 18 = -1 → F' 66 13 = 0 → F' 66 20 = 0 → F' 66 70 = (oAll L mood bud C N 0 s0).2 → F' 66 1 = -3 → E' 67 = rUp (E 67) 3 (w32 (E 67 3 + 1)) → RowOk (E 68) (E' 68) s0.1 → (∀ j, 0 ≤ j → j < 1872 → E' 71 j = E 71 j) → (∀ j, 0 ≤ j → j < 16 → E' 72 j = E 72 j) → F' 66 8 = F 66 8 → Q (some (0, -3)) (n, K, F', E')) : PC l G 10 mX12_orders bg [(2, 66)] (n, K, F, E) Q := by
  have k66 : (K 66).1 = 12 := by rw [hK.k66]
  refine vX12_orders_0 66 ⟨k66, fun F1 f1 F2 f2 => ?_⟩
  have hF2 : FS F2 := by rw [f2, f1]; exact (hF.up (by decide)).up (by decide)
  have k2 : ∀ a k, ¬ (a = 66 ∧ (k = 0 ∨ k = 70)) → F2 a k = F a k := fun a k q => by rw [f2, f1]; unfold pUp; rw [if_neg (by omega), if_neg (by omega)]
  have v70 : F2 66 70 = -1 := by rw [f2, pUp_s]
  refine r_beginText (lw := false) rfl hK hF2 hS hE (by rw [k2 66 13 (by omega)]; exact h13) fun F3 w3 h3 h21 => ?_
  refine r_orders_15 hE h3 h21 tx (fun o F4 E4 w4 a1 a2 a3 a4 => ?_) (fun o F4 E4 w4 a1 a2 a3 a4 a5 a6 a7 a8 => ?_)
  · have hF4 := w4.2.1
    have g4 : ∀ a k, ¬ (a = 66 ∧ (k = 0 ∨ k = 70 ∨ (13 ≤ k ∧ k ≤ 21) ∨ k = 23 ∨ k = 26 ∨ k = 29 ∨ k = 30)) → F4 a k = F a k := fun a k q => by rw [w4.2.2 a k (by omega), w3.2.2 a k (by omega), k2 a k (by omega)]
    refine vX12_orders_50 66 ⟨k66, fun z => absurd z (by omega), fun _ => k_tell hK hF4.f66_2 (by decide) (fun z => absurd z (by decide)) (fun _ => vX12_orders_63 _ (hA o _ _ ⟨fun r b c d e f => ?_, hF4.up (by decide), fun a k q => ?_⟩ ?_ ?_ ?_ ?_ pUp_s ?_ ?_ ⟨?_, ?_⟩ ?_))⟩
    · rw [pUp_an (by omega)]; exact w4.1 r d f
    · unfold pUp; rw [if_neg (by omega), g4 a k (by omega)]
    · rw [pUp_k (by decide)]; exact a2
    · rw [pUp_k (by decide)]; exact a3
    · rw [pUp_k (by decide)]; exact a4
    · rw [pUp_k (by decide), w4.2.2 66 70 (by omega), w3.2.2 66 70 (by omega)]; exact v70
    · rw [pUp_row, pRow1, if_pos rfl, w4.1 67 (by decide) (by decide)]; rfl
    · rw [pUp_an (by decide), w4.1 68 (by decide) (by decide)]
    · rw [pUp_an (by decide), w4.1 71 (by decide) (by decide)]
    · rw [pUp_an (by decide), w4.1 72 (by decide) (by decide)]
    · rw [pUp_k (by decide)]; exact g4 66 8 (by omega)
  · have hF4 := w4.2.1
    have g4 : ∀ a k, ¬ (a = 66 ∧ (k = 0 ∨ k = 70 ∨ (13 ≤ k ∧ k ≤ 21) ∨ k = 23 ∨ k = 26 ∨ k = 29 ∨ k = 30)) → F4 a k = F a k := fun a k q => by rw [w4.2.2 a k (by omega), w3.2.2 a k (by omega), k2 a k (by omega)]
    have n4 : ∀ r, (r < 76 ∨ 80 < r) → r ≠ 103 → E4 r = E r := w4.1
    have e48 : F4 66 8 = F 66 8 := g4 66 8 (by omega)
    refine vX12_orders_50 66 ⟨k66, fun _ => ?_, fun z => absurd a1 z⟩
    refine r_keepOrders hK hF4 fun E5 n5 o5 c5 b5 d5 => vX12_orders_68 66 _ ⟨k66, fun F6 f6 F7 f7 => ?_⟩
    have hF7 : FS F7 := by rw [f7, f6]; exact (hF4.up (by decide)).up (by decide)
    have k7 : ∀ a k, ¬ (a = 66 ∧ (k = 68 ∨ k = 69)) → F7 a k = F4 a k := fun a k q => by rw [f7, f6]; unfold pUp; rw [if_neg (by omega), if_neg (by omega)]
    have e5 : ∀ r, (r < 76 ∨ 80 < r) → r ≠ 103 → r ≠ 71 → r ≠ 73 → r ≠ 74 → E5 r = E r := fun r a b c d f => by rw [n5 r c d f]; exact n4 r a b
    have e568 : E5 68 = E 68 := e5 68 (by decide) (by decide) (by decide) (by decide) (by decide)
    have e572 : E5 72 = E 72 := e5 72 (by decide) (by decide) (by decide) (by decide) (by decide)
    have e571 : ∀ j, 0 ≤ j → j < 1872 → E5 71 j = E 71 j := fun j j0 j1 => by rw [o5 j (Or.inl (by omega)), n4 71 (by decide) (by decide)]
    have f78 : F7 66 8 = F 66 8 := by rw [k7 66 8 (by omega)]; exact e48
    have ro : RO (E 68) F7 E5 s0 := by
      refine ⟨⟨by rw [e568]; exact hc, fun j _ => by rw [e568]⟩, ?_, by rw [f78]; exact h8, by rw [f7, pUp_k (by decide), f6, pUp_s, hd], by rw [f7, pUp_s, hla], by rw [k7 66 20 (by omega)]; exact a4⟩
      rw [f78, ← hlg]
      exact lgR_same h8.2 e571 (fun j _ _ => by rw [e572])
    have kept : (cz fun j => E5 71 (117 * 17 + j)) = s0.1 := by rw [c5, n4 68 (by decide) (by decide)]; exact hc
    refine r_orders_81 (x1 := F4 66 8) (e := F4 66 23) (g := E 68) (L := L) (mood := mood) (bud := bud) (C := C) a6 hK (hko o) (ph o) (ht o) hl hlo hm m0 hbu N 0 s0 F7 E5 (by omega) hF7 ro (so.up (by omega)) (by rw [k7 66 21 (by omega)]; exact a5) (fun c' hc' => ?_) (fun oo F8 E8 w8 => ?_) (fun s' oo sk F8 E8 w8 r8 => ?_)
    · rw [n5 103 (by decide) (by decide) (by decide), n5 77 (by decide) (by decide) (by decide), n5 78 (by decide) (by decide) (by decide)]
      exact a8 c' hc'
    · -- it stops
      have hF8 := w8.2.1
      refine r_giveBack hK hF8 fun E9 n9 ro9 u9 v9 => vX12_orders_123 66 _ ⟨k66, fun F10 f10 => ?_⟩
      have hF10 : FS F10 := by rw [f10]; exact (hF8.up (by decide)).up (by decide)
      have g10 : ∀ a k, ¬ (a = 66 ∧ (k = 8 ∨ k = 70)) → F10 a k = F8 a k := fun a k q => by rw [f10]; unfold pUp; rw [if_neg (by omega), if_neg (by omega)]
      have r8 : ∀ r, r ≠ 68 → r ≠ 71 → r ≠ 72 → (r < 84 ∨ 95 < r) → E8 r = E5 r := w8.1
      refine k_tell hK hF10.f66_2 (by decide) (fun z => absurd z (by decide)) (fun _ => vX12_orders_134 _ (hC o oo _ _ ⟨fun r b c d e f => ?_, hF10.up (by decide), fun a k q => ?_⟩ ?_ ?_ ?_ ?_ pUp_s ?_ ⟨?_, fun j hj => ?_⟩ (fun j j0 j1 => ?_) (fun j j0 j1 => ?_) ?_))
      · rw [pUp_an (by omega), n9 r (by omega) (by omega) (by omega), r8 r (by omega) (by omega) (by omega) e, e5 r d f (by omega) (by omega) (by omega)]
      · unfold pUp; rw [if_neg (by omega), g10 a k (by omega), w8.2.2.1 a k (by omega), k7 a k (by omega), g4 a k (by omega)]
      · rw [pUp_k (by decide), g10 66 18 (by omega), w8.2.2.1 66 18 (by omega), k7 66 18 (by omega)]; exact a2
      · rw [pUp_k (by decide), g10 66 13 (by omega), w8.2.2.1 66 13 (by omega), k7 66 13 (by omega)]; exact a3
      · rw [pUp_k (by decide), g10 66 20 (by omega), w8.2.2.1 66 20 (by omega), k7 66 20 (by omega)]; exact a4
      · rw [pUp_k (by decide), f10, pUp_s]
      · rw [pUp_row, pRow1, if_pos rfl, n9 67 (by decide) (by decide) (by decide), r8 67 (by decide) (by decide) (by decide) (by decide), e5 67 (by decide) (by decide) (by decide) (by decide) (by decide)]; rfl
      · rw [pUp_an (by decide), ro9.1, ← kept]
        refine cz_ext fun k k0 k1 => ?_
        exact w8.2.2.2.1 _ (by omega) (by omega)
      · rw [pUp_an (by decide), ro9.2 j hj]
        rw [w8.2.2.2.2 j hj, e568]
      · rw [pUp_an (by decide), u9 j j0 j1, r8 73 (by decide) (by decide) (by decide) (by decide), b5 j j0 j1, n4 71 (by decide) (by decide)]
      · rw [pUp_an (by decide), v9 j j0 j1, r8 74 (by decide) (by decide) (by decide) (by decide), d5 j j0 j1, n4 72 (by decide) (by decide)]
      · rw [pUp_k (by decide), f10, pUp_k (by decide), pUp_s]; exact e48
    · -- all are done
      have hF8 := w8.2.1
      have r8' : ∀ r, r ≠ 68 → r ≠ 71 → r ≠ 72 → (r < 84 ∨ 95 < r) → E8 r = E5 r := w8.1
      have dn : 0 ≤ s'.2.2.1 := sk.2.2.1.1
      refine k_tell hK hF8.f66_2 (by omega) (fun _ => vX12_orders_155 _ (hB o s' oo _ _ ⟨fun r b c d e f => ?_, hF8.up (by decide), fun a k q => ?_⟩ ?_ ?_ ?_ ?_ pUp_s ?_ r8.1 ?_ ?_ dn)) (fun z => absurd z (by omega))
      · rw [r8' r (by omega) (by omega) (by omega) e, e5 r d f (by omega) (by omega) (by omega)]
      · unfold pUp; rw [if_neg (by omega), w8.2.2.1 a k (by omega), k7 a k (by omega), g4 a k (by omega)]
      · rw [pUp_k (by decide), w8.2.2.1 66 18 (by omega), k7 66 18 (by omega)]; exact a2
      · rw [pUp_k (by decide), w8.2.2.1 66 13 (by omega), k7 66 13 (by omega)]; exact a3
      · rw [pUp_k (by decide), w8.2.2.1 66 20 (by omega), k7 66 20 (by omega)]; exact a4
      · rw [pUp_k (by decide), w8.2.2.1 66 70 (by omega), k7 66 70 (by omega), w4.2.2 66 70 (by omega), w3.2.2 66 70 (by omega)]; exact v70
      · rw [r8' 67 (by decide) (by decide) (by decide) (by decide), e5 67 (by decide) (by decide) (by decide) (by decide) (by decide)]
      · rw [pUp_k (by decide)]; exact r8.2.1
      · rw [pUp_k (by decide)]; exact r8.2.2.1
end R
