/-! THE CHEAPEST ORDER in the reference; the pairs cheapest and regret -/
section R
variable {l : Launch} {G : pG} {bg : Nat × Nat} {n : Nat} {K : Int → Nat × Nat} {Q : Option pV → pM → Prop} {L : Option tLaw} {mood r a b : Int} {c : Int → Int} {N : Nat}
theorem r_leastCost_88 {F : Int → Int → Int} {T x y : Int} (hK : KS K) (hF : FS F) (w : Nat) : ∀ (i : Int) (E : Int → Int → Int), i + w = 4 → 0 ≤ i → PW l G 7 mX12_leastCost bg 88 [(0, (2, 66)), (1, (0, r)), (2, (0, a)), (3, (0, b)), (4, (0, T)), (5, (0, x)), (6, (0, y)), (7, (0, 4))] [] (n, K, F, pRow E 99 (rCp (E 99) (E 96) i 4 0)) Q → PW l G 7 mX12_leastCost bg 88 [(0, (2, 66)), (1, (0, r)), (2, (0, a)), (3, (0, b)), (4, (0, T)), (5, (0, x)), (6, (0, y)), (7, (0, i))] [] (n, K, F, E) Q := by
  induction w with
  | zero =>
    intro i E e i0 q
    obtain rfl : i = 4 := by omega
    rw [show rCp (E 99) (E 96) 4 4 0 = E 99 from funext fun j => if_neg (by omega), pRow_self] at q
    exact q
  | succ w ih =>
    intro i E e i0 q
    refine vX12_leastCost_88 66 r a b T x y i ?_
    simp only [hF.f66_57, hF.f66_63, hK.k66, hK.k96, hK.k99]
    refine ⟨fun z => absurd z (by omega), fun _ => ⟨trivial, trivial, by omega, by decide, trivial, by omega, fun E1 e1 => ⟨by omega, ?_⟩⟩⟩
    subst e1
    refine ih (i + 1) _ (by omega) (by omega) ?_
    rw [cp_step (by decide) (by omega) (by rw [Int.add_zero])]
    exact q
theorem r_leastCost_38 (hK : KS K) (hC : CInv c) (N4 : N ≤ 4) (hN : c 0 = N) (hlo : LwOk L) (m0 : 0 ≤ mood ∧ mood ≤ 9) (zr : 0 ≤ r ∧ r < 3) (za : 0 ≤ a ∧ a < 10) (zb : 0 ≤ b ∧ b < 10) (w : Nat) : ∀ (k : Int) (s : Int × Int) (F E : Int → Int → Int), k + w = ((4 ^ N : Nat) : Int) → 0 ≤ k → FS F → cz (sh6 (E 68)) = c → LawF (E 68) L → E 68 5 = mood → F 66 20 = 0 → (s.1 < 100000000 → ∀ i, 0 ≤ i → i < (N : Int) → E 99 i = dg N s.2 i) →
    (∀ F' E', FrP F E F' E' → ((foldS (qOr c L mood N r a b) (rem N k) s).1 < 100000000 → ∀ i, 0 ≤ i → i < (N : Int) → E' 99 i = dg N (foldS (qOr c L mood N r a b) (rem N k) s).2 i) → Q (some (0, (foldS (qOr c L mood N r a b) (rem N k) s).1)) (n, K, F', E')) →
    PW l G 7 mX12_leastCost bg 38 [(0, (2, 66)), (1, (0, r)), (2, (0, a)), (3, (0, b)), (4, (0, ((4 ^ N : Nat) : Int))), (5, (0, s.1)), (6, (0, k))] [] (n, K, F, E) Q := by
  have p256 : ((4 ^ N : Nat) : Int) ≤ 256 := by
    have : 4 ^ N ≤ 4 ^ 4 := Nat.pow_le_pow_right (by decide) N4
    have e : (4 : Nat) ^ 4 = 256 := by decide
    omega
  induction w with
  | zero =>
    intro k s F E ek k0 hF hc hl hm h20 hb hQ
    have e : k = ((4 ^ N : Nat) : Int) := by omega
    rw [e, (rem_endsI N4).1] at hQ
    refine vX12_leastCost_38 66 r a b _ s.1 k ⟨fun _ => ⟨by rw [hK.k66], fun F1 f1 => hQ F1 E ?_ hb⟩, fun z => absurd (by omega) z⟩
    exact ⟨fun _ _ _ _ _ _ _ _ _ _ => rfl, by rw [f1]; exact hF.up (by decide +kernel), fun p j _ q => by rw [f1]; unfold pUp; rw [if_neg (by omega)]⟩
  | succ w ih =>
    intro k s F E ek k0 hF hc hl hm h20 hb hQ
    have rs := rem_stepI (N := N) N4 k0 (by omega)
    have e6 : E 68 6 = N := by rw [← hN, ← hc, czs_at (j := 6) (by decide) (by decide) (by decide)]
    refine vX12_leastCost_38 66 r a b _ s.1 k ⟨fun z => absurd z (by omega), fun _ => ⟨by rw [hK.k66], ?_⟩⟩
    refine r_layOrder (N := N) hK hF N4 e6 k0 (by omega) fun E1 n1 o1 => ?_
    have p1 : FrP F E F E1 := ⟨fun p h1 h2 h3 h4 h5 h6 h7 h8 h9 => n1 p (by omega), hF, fun _ _ _ _ => rfl⟩
    refine vX12_leastCost_51 66 r a b _ s.1 k _ ⟨fun z => ⟨by omega, ?_⟩, fun z => ⟨by rw [hK.k66], fun F2 f2 => ?_⟩⟩
    · rw [if_neg (by omega)] at rs
      rw [rs] at hQ
      exact ih (k + 1) s F E1 (by omega) (by omega) hF (by rw [p1.e68]; exact hc) (by rw [p1.e68]; exact hl) (by rw [p1.e68]; exact hm) h20 (fun y i i0 i1 => by rw [n1 99 (by decide)]; exact hb y i i0 i1) fun F' E' p' hb' => hQ F' E' (p1.trans p') hb'
    · have l1 : lay N k = 1 := by
        unfold lay at z ⊢
        split
        · rfl
        · rename_i y; rw [if_neg y] at z; exact absurd rfl z
      rw [if_pos l1] at rs
      have kin : k ∈ pl N := rem_sub (k := k) (by rw [rs]; exact List.mem_cons_self)
      rw [rs] at hQ
      have og := dg_og N4 hN kin
      have hF2 : FS F2 := by rw [f2]; exact hF.up (by decide +kernel)
      have p2 : FrP F E F2 E1 := p1.trans ⟨fun _ _ _ _ _ _ _ _ _ _ => rfl, hF2, fun p j _ q => by rw [f2]; unfold pUp; rw [if_neg (by omega)]⟩
      refine r_comes (c := c) (L := L) (bud := 100000000) (mood := mood) (og := dg N k) (fx := true) hK hF2 (by rw [p1.e68]; exact hc) hC ⟨by rw [p2.f20]; exact h20, by rw [p1.e68]; exact hl, hlo⟩ ⟨og, Or.inr ⟨rfl, by rw [f2, pUp_s], fun i i0 i1 => o1 i i0 (by omega)⟩⟩ (by rw [p1.e68]; exact hm) m0 zr za zb fun F3 E3 v w3 rp hv => ?_
      have q4 := (pap_big (L := L) (mood := mood) (r := r) (a := a) (b := b) hC og (show (100000000 : Int) ≤ 100000000 by decide)).2
      have e0 : F3 66 50 = qOr c L mood N r a b k := rp.2.2.2.1 q4
      have p3 := p2.trans w3.p
      have e96 : E3 96 = E1 96 := w3.1 96 (by decide) (by decide)
      have e99 : E3 99 = E 99 := (w3.1 99 (by decide) (by decide)).trans (n1 99 (by decide))
      have go : ∀ s' E4, s' = (if s.1 ≤ qOr c L mood N r a b k then s else (qOr c L mood N r a b k, k)) → (∀ p, p ≠ 99 → E4 p = E3 p) → (s'.1 < 100000000 → ∀ i, 0 ≤ i → i < (N : Int) → E4 99 i = dg N s'.2 i) → PW l G 7 mX12_leastCost bg 38 [(0, (2, 66)), (1, (0, r)), (2, (0, a)), (3, (0, b)), (4, (0, ((4 ^ N : Nat) : Int))), (5, (0, s'.1)), (6, (0, k + 1))] [] (n, K, F3, E4) Q := fun s' E4 es n4 hb4 => by
        have p4 : FrP F E F3 E4 := p3.trans ⟨fun p h1 h2 h3 h4 h5 h6 h7 h8 h9 => n4 p (by omega), p3.2.1, fun _ _ _ _ => rfl⟩
        refine ih (k + 1) s' F3 E4 (by omega) (by omega) p3.2.1 (by rw [p4.e68]; exact hc) (by rw [p4.e68]; exact hl) (by rw [p4.e68]; exact hm) (by rw [p4.f20]; exact h20) hb4 fun F' E' p' hb' => ?_
        subst es
        exact hQ F' E' (p4.trans p') hb'
      refine vX12_leastCost_69 66 r a b _ s.1 k v ⟨by rw [hK.k66], ?_⟩
      rw [e0]
      refine ⟨fun y => ⟨by omega, go s E3 (by rw [if_pos y]) (fun _ _ => rfl) (fun x i i0 i1 => by rw [e99]; exact hb x i i0 i1)⟩, fun y => ?_⟩
      refine r_leastCost_88 hK w3.2.1 4 0 E3 (by decide) (by decide) ?_
      refine vX12_leastCost_88 66 r a b _ _ k 4 ⟨fun _ => ⟨by omega, ?_⟩, fun x => absurd (by decide) x⟩
      refine go (qOr c L mood N r a b k, k) _ (by rw [if_neg y]) (fun p hp => pRow_ne hp) (fun x i i0 i1 => ?_)
      rw [pRow_at]
      unfold rCp
      rw [if_pos ⟨i0, by omega⟩, Int.add_zero, e96]
      exact o1 i i0 i1
theorem r_leastCost {F E : Int → Int → Int} (hK : KS K) (hF : FS F) (hc : cz (sh6 (E 68)) = c) (hC : CInv c) (N4 : N ≤ 4) (hN : c 0 = N) (h20 : F 66 20 = 0) (hl : LawF (E 68) L) (hlo : LwOk L) (hm : E 68 5 = mood) (m0 : 0 ≤ mood ∧ mood ≤ 9) (zr : 0 ≤ r ∧ r < 3) (za : 0 ≤ a ∧ a < 10) (zb : 0 ≤ b ∧ b < 10)
    (hQ : ∀ F' E', FrP F E F' E' → ((foldS (qOr c L mood N r a b) (pl N) (100000000, 0)).1 < 100000000 → ∀ i, 0 ≤ i → i < (N : Int) → E' 99 i = dg N (foldS (qOr c L mood N r a b) (pl N) (100000000, 0)).2 i) → Q (some (0, (foldS (qOr c L mood N r a b) (pl N) (100000000, 0)).1)) (n, K, F', E')) :
    PC l G 7 mX12_leastCost bg [(2, 66), (0, r), (0, a), (0, b)] (n, K, F, E) Q := by
  have e6 : E 68 6 = N := by rw [← hN, ← hc, czs_at (j := 6) (by decide) (by decide) (by decide)]
  have p256 : ∀ i, i ≤ N → 4 ^ i ≤ 256 := fun i hi => by
    have : 4 ^ i ≤ 4 ^ 4 := Nat.pow_le_pow_right (by decide) (by omega)
    have e : (4 : Nat) ^ 4 = 256 := by decide
    omega
  have lp : ∀ (w i : Nat), i + w = N → PW l G 7 mX12_leastCost bg 6 [(0, (2, 66)), (1, (0, r)), (2, (0, a)), (3, (0, b)), (4, (0, ((4 ^ i : Nat) : Int))), (5, (0, (i : Int)))] [] (n, K, F, E) Q := by
    intro w
    induction w with
    | zero =>
      intro i ei
      obtain rfl : i = N := by omega
      refine vX12_leastCost_6 66 r a b _ _ ?_
      simp only [hF.f66_3, hK.k66, hK.k68, e6]
      refine ⟨trivial, trivial, by decide, fun _ => ?_, fun z => absurd (by omega) z⟩
      exact r_leastCost_38 (c := c) (L := L) (mood := mood) (N := i) hK hC N4 hN hlo m0 zr za zb (4 ^ i) 0 (100000000, 0) F E (by omega) (by decide) hF hc hl hm h20 (fun z => absurd z (by decide)) (by rw [(rem_endsI N4).2.1]; exact hQ)
    | succ w ih =>
      intro i ei
      have b4 := p256 i (by omega)
      have q := ih (i + 1) (by omega)
      rw [Nat.pow_succ] at q
      generalize 4 ^ i = P at b4 q ⊢
      rw [show ((P * 4 : Nat) : Int) = (P : Int) * 4 by omega, show ((i + 1 : Nat) : Int) = (i : Int) + 1 by omega] at q
      refine vX12_leastCost_6 66 r a b _ _ ?_
      simp only [hF.f66_3, hK.k66, hK.k68, e6]
      exact ⟨trivial, trivial, by decide, fun z => absurd z (by omega), fun _ => ⟨by omega, by omega, q⟩⟩
  exact vX12_leastCost_0 66 r a b (lp N 0 (by omega))
end R
theorem qOr_rng {c : Int → Int} {L : Option tLaw} {mood r a b k : Int} {N : Nat} (hC : CInv c) (N4 : N ≤ 4) (hN : c 0 = N) (hk : k ∈ pl N) : 0 ≤ qOr c L mood N r a b k ∧ qOr c L mood N r a b k < 100000000 := by
  have := (pap_bd (L := L) (mood := mood) (r := r) (a := a) (b := b) hC (dg_og N4 hN hk)).2.1
  unfold qOr
  omega
theorem foldS_lt {q : Int → Int} (R : List Int) : ∀ s : Int × Int, (foldS q R s).1 ≤ s.1 := by
  induction R with
  | nil => intro s; exact Int.le_refl _
  | cons k R ih =>
    intro s
    unfold foldS
    refine Int.le_trans (ih _) ?_
    split
    · exact Int.le_refl _
    · dsimp only; omega
theorem fold_same {c : Int → Int} {L : Option tLaw} {mood r a b : Int} {N : Nat} (hC : CInv c) (N4 : N ≤ 4) (hN : c 0 = N) : foldS (qOr c L mood N r a b) (pl N) (100000000, 0) = foldS (qOr c L mood N r a b) (pl N) (1000000000, 0) ∧ (foldS (qOr c L mood N r a b) (pl N) (1000000000, 0)).1 < 100000000 := by
  obtain ⟨_, _, _, ne, _⟩ := rem_endsI N4
  match hpl : pl N, ne with
  | k :: R, _ =>
    have bq := qOr_rng (L := L) (mood := mood) (r := r) (a := a) (b := b) hC N4 hN (k := k) (by rw [hpl]; exact List.mem_cons_self)
    unfold foldS
    rw [if_neg (by dsimp only; omega), if_neg (by dsimp only; omega)]
    have := foldS_lt (q := qOr c L mood N r a b) R (qOr c L mood N r a b k, k)
    exact ⟨rfl, by dsimp only at this; omega⟩
theorem two_cheapest {l : Launch} {G : pG} {r a b i : Int} : Pair lawLR l G 32 mX11_cheapest (0, 0) 8 mX12_cheapest (0, 0) [(0, r), (0, a), (0, b), (0, i)] := by
  intro n K F E h
  have hK := h.KS
  have hF := h.FS
  have hC := cinv_cz h.2.1.1.2
  obtain ⟨L, hl, hlr⟩ := inv_law h
  obtain ⟨⟨t1, t2, t3⟩, ti⟩ := inv_terms h
  have c0 : cz (E 3) 0 = E 3 0 := cz_in (by decide) (by decide)
  have b0 := hC.1
  rw [c0] at b0
  obtain ⟨N, hN⟩ : ∃ N : Nat, E 3 0 = N := ⟨(E 3 0).toNat, by omega⟩
  have N4 : N ≤ 4 := by omega
  have hN' : cz (E 3) 0 = N := by rw [c0]; exact hN
  have e6 : E 68 6 = N := by rw [← hN]; exact h.2.1.1.1 0 (by decide) (by decide)
  obtain ⟨fs, fl⟩ := fold_same (L := L) (mood := E 4 2) (r := r) (a := a) (b := b) hC N4 hN'
  have no : ¬ (((0 ≤ r ∧ r < 3) ∧ (0 ≤ a ∧ a < 10) ∧ (0 ≤ b ∧ b < 10)) ∧ -1 ≤ i ∧ i < N) → PostC lawLR l G 8 mX12_cheapest (0, 0) [(0, r), (0, a), (0, b), (0, i)] (n, K, F, E) (some (0, -1)) (n, K, F, E) := fun z => by
    refine ⟨_, rfl, Out.refl, hK, ?_⟩
    refine vX12_cheapest_0 66 r a b i ⟨by rw [hK.k66], fun F2 f2 => ?_⟩
    have q2 : FrP F E F2 E := by rw [f2]; exact (FrP.refl hF).zero
    simp only [hF.f66_3, hK.k68, e6]
    exact ⟨fun y => ⟨rfl, q2.out, q2.inv h⟩, fun y => ⟨trivial, by decide, by omega, fun x => absurd ⟨y, by omega⟩ z, fun x => ⟨rfl, q2.out, q2.inv h⟩⟩⟩
  refine vX11_cheapest_0 0 r a b i ?_
  simp only [hF.f0_0, hF.f1_0, hF.f2_0, hK.k0, hK.k1, hK.k2, hK.k3, hN]
  refine ⟨fun z => no (fun q => z q.1), fun z => ⟨fun y => no (by omega), fun y => ⟨trivial, trivial, trivial, trivial, by decide, fun x => ?_, fun x => no (by omega)⟩⟩⟩
  refine c_findCheapest (c := cz (E 3)) (L := L) (mood := E 4 2) (N := N) hK hF rfl hC N4 hN' hl rfl ti.2.2 z.1 z.2.1 z.2.2 fun F1 E1 p1 hb1 => ?_
  have hb1 := hb1 (by omega)
  have key : PostC lawLR l G 8 mX12_cheapest (0, 0) [(0, r), (0, a), (0, b), (0, i)] (n, K, F, E) (some (0, if i = -1 then (foldS (qOr (cz (E 3)) L (E 4 2) N r a b) (pl N) (1000000000, 0)).1 else dg N (foldS (qOr (cz (E 3)) L (E 4 2) N r a b) (pl N) (1000000000, 0)).2 i)) (n, K, F1, E1) := by
    refine ⟨_, rfl, p1.out, hK, ?_⟩
    refine vX12_cheapest_0 66 r a b i ⟨by rw [hK.k66], fun F2 f2 => ?_⟩
    have p2 : FrP F E F2 E1 := by rw [f2]; exact p1.zero
    have q2 : FrP F1 E1 F2 E1 := by rw [f2]; exact (FrP.refl p1.2.1).zero
    simp only [p1.2.1.f66_3, hK.k68, p1.e68, e6]
    refine ⟨fun w => absurd z w, fun _ => ⟨trivial, by decide, by omega, fun _ => ?_, fun w => absurd (by omega) w⟩⟩
    refine r_leastCost (c := cz (E 3)) (L := L) (mood := E 4 2) (N := N) hK p2.2.1 (by rw [p2.e68]; exact rel_cz h.2.1.1.1) hC N4 hN' (by rw [p2.f20]; exact h.2.2.2.2.2.2.2.2.2.2) (by rw [p2.e68]; exact hlr) hl.2 (by rw [p2.e68]; exact t3) ti.2.2 z.1 z.2.1 z.2.2 fun F3 E3 p3 hb3 => ?_
    rw [fs] at hb3 ⊢
    have hb3 := hb3 fl
    refine vX12_cheapest_45 66 i _ ⟨fun w => ?_, fun w => ⟨?_, (q2.trans p3).out, (p2.trans p3).inv h⟩⟩
    · simp only [p3.2.1.f66_63, hK.k66, hK.k99]
      refine ⟨trivial, trivial, by omega, ?_, (q2.trans p3).out, (p2.trans p3).inv h⟩
      rw [if_neg w, hb3 i (by omega) (by omega)]
    · rw [if_pos w]
  refine vX11_cheapest_39 0 i _ ⟨fun w => ?_, fun w => ?_⟩
  · simp only [p1.2.1.f0_14, hK.k0, hK.k50]
    refine ⟨trivial, trivial, by omega, ?_⟩
    rw [if_neg w] at key
    rw [hb1 i (by omega) (by omega)]
    exact key
  · rw [if_pos w] at key
    exact key
theorem two_regret {l : Launch} {G : pG} {r a b : Int} : Pair lawLR l G 32 mX11_regret (0, 0) 8 mX12_regret (0, 0) [(0, r), (0, a), (0, b)] := by
  intro n K F E h
  have hK := h.KS
  have hF := h.FS
  have hC := cinv_cz h.2.1.1.2
  obtain ⟨L, hl, hlr⟩ := inv_law h
  obtain ⟨⟨t1, t2, t3⟩, ti⟩ := inv_terms h
  have c0 : cz (E 3) 0 = E 3 0 := cz_in (by decide) (by decide)
  have b0 := hC.1
  rw [c0] at b0
  obtain ⟨N, hN⟩ : ∃ N : Nat, E 3 0 = N := ⟨(E 3 0).toNat, by omega⟩
  have N4 : N ≤ 4 := by omega
  have hN' : cz (E 3) 0 = N := by rw [c0]; exact hN
  obtain ⟨fs, fl⟩ := fold_same (L := L) (mood := E 4 2) (r := r) (a := a) (b := b) hC N4 hN'
  refine vX11_regret_0 0 r a b ?_
  simp only [hF.f0_0, hF.f1_0, hK.k0, hK.k1]
  refine ⟨fun z => ⟨trivial, trivial, ?_⟩, fun z => ⟨_, rfl, Out.refl, hK, ?_⟩⟩
  · refine c_lawInForce hK hF hl fun t ht => ?_
    refine vX11_regret_26 0 r a b t 2 0 ⟨by rw [hK.k0], ?_⟩
    refine c_costOnPaper (c := cz (E 3)) (L := L) hK hF (Or.inl ⟨rfl, rfl⟩) rfl hC ⟨ht, hl.2⟩ rfl ti.2.2 z.1 z.2.1 z.2.2 fun F1 E1 w1 _ => ?_
    have p1 := w1.p
    have e3 : E1 3 = E 3 := p1.1 3 (by decide) (by decide) (by decide) (by decide) (by decide) (by decide) (by decide) (by decide) (by decide)
    have e4 : E1 4 = E 4 := p1.1 4 (by decide) (by decide) (by decide) (by decide) (by decide) (by decide) (by decide) (by decide) (by decide)
    refine vX11_regret_32 0 r a b _ ⟨by rw [hK.k0], ?_⟩
    refine c_findCheapest (c := cz (E 3)) (L := L) (mood := E 4 2) (N := N) hK p1.2.1 (by rw [e3]) hC N4 hN' (hl.keep p1) (by rw [e4]) ti.2.2 z.1 z.2.1 z.2.2 fun F2 E2 p2 _ => ?_
    have p02 := p1.trans p2
    refine vX11_regret_43 _ _ ⟨_, rfl, p02.out, hK, ?_⟩
    refine vX12_regret_0 66 r a b ⟨by rw [hK.k66], fun F3 f3 => ⟨fun _ => ?_, fun y => absurd z y⟩⟩
    have p3 : FrP F E F3 E2 := by rw [f3]; exact p02.zero
    have q3 : FrP F2 E2 F3 E2 := by rw [f3]; exact (FrP.refl p02.2.1).zero
    have side : ∀ F' E', FrP F E F' E' → cz (sh6 (E' 68)) = cz (E 3) ∧ F' 66 20 = 0 ∧ LawF (E' 68) L ∧ E' 68 5 = E 4 2 := fun F' E' p => by
      rw [p.e68, p.f20]
      exact ⟨rel_cz h.2.1.1.1, h.2.2.2.2.2.2.2.2.2.2, hlr, t3⟩
    obtain ⟨s1, s2, s3, s4⟩ := side _ _ p3
    refine r_costNow (c := cz (E 3)) (L := L) (mood := E 4 2) hK p3.2.1 s1 hC s2 s3 hl.2 s4 ti.2.2 z.1 z.2.1 z.2.2 fun F4 E4 p4 _ _ _ => ?_
    have p04 := p3.trans p4
    obtain ⟨s1, s2, s3, s4⟩ := side _ _ p04
    refine vX12_regret_23 66 r a b _ ⟨by rw [hK.k66], ?_⟩
    refine r_leastCost (c := cz (E 3)) (L := L) (mood := E 4 2) (N := N) hK p04.2.1 s1 hC N4 hN' s2 s3 hl.2 s4 ti.2.2 z.1 z.2.1 z.2.2 fun F5 E5 p5 _ => ?_
    rw [fs]
    exact vX12_regret_34 _ _ ⟨rfl, ((q3.trans p4).trans p5).out, (p04.trans p5).inv h⟩
  · refine vX12_regret_0 66 r a b ⟨by rw [hK.k66], fun F3 f3 => ⟨fun y => absurd y z, fun _ => ?_⟩⟩
    have q3 : FrP F E F3 E := by rw [f3]; exact (FrP.refl hF).zero
    exact ⟨rfl, q3.out, q3.inv h⟩
