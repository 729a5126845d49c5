/-! THE CHEAPEST ORDER in both programs -/
def foldS (q : Int → Int) : List Int → Int × Int → Int × Int
  | [], s => s
  | k :: R, s => foldS q R (if s.1 ≤ q k then s else (q k, k))
noncomputable def qOr (c : Int → Int) (L : Option tLaw) (mood : Int) (N : Nat) (r a b k : Int) : Int := (papS c L mood (dg N k) true r a b).2.2.2 0
theorem rem_stepI {N : Nat} (N4 : N ≤ 4) {k : Int} (k0 : 0 ≤ k) (k1 : k < ((4 ^ N : Nat) : Int)) : if lay N k = 1 then rem N k = k :: rem N (k + 1) else rem N k = rem N (k + 1) := by
  have h := rem_step ⟨N, by omega⟩ ⟨k.toNat, by show k.toNat < 4 ^ N; omega⟩
  dsimp only at h
  rw [show ((k.toNat : Nat) : Int) = k by omega] at h
  exact h
theorem rem_endsI {N : Nat} (N4 : N ≤ 4) : rem N ((4 ^ N : Nat) : Int) = [] ∧ rem N 0 = pl N ∧ (pl N).length ≤ 24 ∧ pl N ≠ [] ∧ ∀ i, 0 ≤ i → i < (N : Int) → dg N ((pl N).headD 0) i = i := by
  have h := rem_ends ⟨N, by omega⟩
  dsimp only at h
  refine ⟨?_, h.2.1, h.2.2.1, h.2.2.2.1, fun i i0 i1 => ?_⟩
  · have e : ((4 ^ N : Nat) : Int) = 4 ^ N := by
      rcases (show N = 0 ∨ N = 1 ∨ N = 2 ∨ N = 3 ∨ N = 4 by omega) with e | e | e | e | e <;> subst e <;> rfl
    rw [e]; exact h.1
  · have q := h.2.2.2.2 ⟨i.toNat, by show i.toNat < N; omega⟩
    dsimp only at q
    rw [show ((i.toNat : Nat) : Int) = i by omega] at q
    exact q
theorem chk_plI {N : Nat} (N4 : N ≤ 4) : chk N (pl N) = true := by
  obtain ⟨h0, h1, h2, h3, h4⟩ := chk_pl
  rcases (show N = 0 ∨ N = 1 ∨ N = 2 ∨ N = 3 ∨ N = 4 by omega) with e | e | e | e | e <;> subst e
  · exact h0
  · exact h1
  · exact h2
  · exact h3
  · exact h4
theorem dg_og {N : Nat} {c : Int → Int} {k : Int} (N4 : N ≤ 4) (hN : c 0 = N) (hk : k ∈ pl N) : OgOk c (dg N k) true := by
  refine ⟨fun i i0 i1 => ?_, fun z => absurd z (by decide)⟩
  have h := dg_rng ⟨N, by omega⟩ k hk ⟨i.toNat, by show i.toNat < N; omega⟩
  dsimp only at h
  rw [show ((i.toNat : Nat) : Int) = i by omega] at h
  rw [hN]
  exact h
theorem rem_sub {N : Nat} {k x : Int} (h : x ∈ rem N k) : x ∈ pl N := (List.mem_filter.mp h).1
section C
variable {l : Launch} {G : pG} {bg : Nat × Nat} {n : Nat} {K : Int → Nat × Nat} {Q : Option pV → pM → Prop} {L : Option tLaw} {mood r a b : Int} {c : Int → Int} {N : Nat}
theorem c_turn {k t : Int} {s : Int × Int} {F E : Int → Int → Int} (hK : KS K) (hC : CInv c) (N4 : N ≤ 4) (hN : c 0 = N) (hlo : LwOk L) (m0 : 0 ≤ mood ∧ mood ≤ 9) (zr : 0 ≤ r ∧ r < 3) (za : 0 ≤ a ∧ a < 10) (zb : 0 ≤ b ∧ b < 10) (hF : FS F) (hc : cz (E 3) = c) (hl : (L = none ∧ F 30 3 = -1) ∨ ∃ L', L = some L' ∧ LawC K F E (F 30 3) L') (h5 : F 30 5 = 1000000000) (h4 : F 30 4 = 51) (h7 : E 33 7 = mood) (hp : k ∈ pl N) (ho : ∀ i, 0 ≤ i → i < (N : Int) → E 51 i = dg N k i) (t0 : 0 ≤ t) (t1 : t < 24) (hb : s.1 < 1000000000 → ∀ i, 0 ≤ i → i < (N : Int) → E 50 i = dg N s.2 i)
    (hQ : ∀ F' E', FrP F E F' E' → cz (E' 3) = c → ((L = none ∧ F' 30 3 = -1) ∨ ∃ L', L = some L' ∧ LawC K F' E' (F' 30 3) L') → F' 30 5 = 1000000000 → F' 30 4 = 51 → E' 33 7 = mood → (∀ i, 0 ≤ i → i < (N : Int) → E' 51 i = nextF N (dg N k) i) → ((if s.1 ≤ qOr c L mood N r a b k then s else (qOr c L mood N r a b k, k)).1 < 1000000000 → ∀ i, 0 ≤ i → i < (N : Int) → E' 50 i = dg N (if s.1 ≤ qOr c L mood N r a b k then s else (qOr c L mood N r a b k, k)).2 i) → PW l G 31 mX11_findCheapest bg 80 [(0, (2, 0)), (1, (0, r)), (2, (0, a)), (3, (0, b)), (4, (0, N)), (5, (2, 51)), (6, (0, (if s.1 ≤ qOr c L mood N r a b k then s else (qOr c L mood N r a b k, k)).1)), (7, (0, nextA N (dg N k))), (8, (0, t + 1))] [] (n, K, F', E') Q) :
    PW l G 31 mX11_findCheapest bg 80 [(0, (2, 0)), (1, (0, r)), (2, (0, a)), (3, (0, b)), (4, (0, N)), (5, (2, 51)), (6, (0, s.1)), (7, (0, 1)), (8, (0, t))] [] (n, K, F, E) Q := by
  have og := dg_og N4 hN hp
  refine vX11_findCheapest_80 0 r a b N 51 s.1 1 t ⟨fun z => absurd z (by omega), fun _ => ⟨fun z => absurd z (by decide), fun _ => ?_⟩⟩
  simp only [hF.f0_0, hF.f0_10, hF.f1_0, hK.k0, hK.k1, hK.k30]
  refine ⟨trivial, trivial, trivial, ?_⟩
  refine c_setTuple (c := c) (L := L) (bud := 1000000000) (mood := mood) (og := dg N k) (fx := true) hK hF (by rw [hK.k2]) hF.f2_0 hK.k3 (by decide) (Or.inl rfl) hc hC ⟨hl, hlo⟩ h5 ⟨og, Or.inr ⟨rfl, h4, fun i i0 i1 => ho i i0 (by omega)⟩⟩ h7 m0 zr za zb fun F5 E5 w5 cx5 rp5 => ?_
  refine vX11_findCheapest_109 0 r a b N 51 s.1 t ?_
  simp only [w5.2.1.f0_10, hK.k0, hK.k30]
  refine ⟨trivial, trivial, c_way (by decide) cx5 rp5 za zb fun F7 E7 f7 rp7 => ?_⟩
  have w7 := w5.trans f7.w
  have cx7 := cx5.keep f7
  have hF7 := f7.2.2.1
  rw [(pap_big hC og (by decide)).1] at rp7
  obtain ⟨u1, u2, u3, u4, u5, u6, u7, u8, u9, u10, u11⟩ := rp7
  obtain ⟨_, _, ⟨c7, _⟩, ⟨l7, _⟩, b7, ⟨_, o7⟩, ⟨_, _, _, _, m7, _⟩⟩ := cx7
  have k4 : F7 30 4 = 51 := by
    rcases o7 with ⟨z, _⟩ | ⟨_, z, _⟩
    · exact absurd z (by decide)
    · exact z
  have o51 : E7 51 = E 51 := w7.1 51 (by decide) (by decide) (by decide) (by decide) (by decide) (by decide) (by decide)
  have o50 : E7 50 = E 50 := w7.1 50 (by decide) (by decide) (by decide) (by decide) (by decide) (by decide) (by decide)
  have fin : ∀ E8 s', (∀ p, p ≠ 50 → E8 p = E7 p) → s' = (if s.1 ≤ qOr c L mood N r a b k then s else (qOr c L mood N r a b k, k)) → (s'.1 < 1000000000 → ∀ i, 0 ≤ i → i < (N : Int) → E8 50 i = dg N s'.2 i) → PC l G 1 mX11_nextOrder (0, 0) [(2, 51), (0, N)] (n, K, F7, E8) (fun r_1 μ => PW l G 31 mX11_findCheapest bg 159 [(0, (2, 0)), (1, (0, r)), (2, (0, a)), (3, (0, b)), (4, (0, N)), (5, (2, 51)), (6, (0, s'.1)), (8, (0, t))] (r_1.toList ++ []) μ Q) := by
    intro E8 s' n8 es hb8
    have e51 : E8 51 = E 51 := (n8 51 (by decide)).trans o51
    obtain ⟨na, nf⟩ := next_congr (n := N) (f := E8 51) (g := dg N k) (fun i i0 i1 => by rw [e51]; exact ho i i0 i1)
    refine c_nextOrder hK N4 ?_
    rw [na]
    refine vX11_findCheapest_159 0 r a b N 51 s'.1 t _ ⟨by omega, ?_⟩
    subst es
    refine hQ F7 _ (w7.p.trans ⟨fun p h1 h2 h3 h4 h5 h6 h7 h8 h9 => by rw [pRow_ne h6, n8 p h5], hF7, fun _ _ _ _ => rfl⟩) (by rw [pRow_ne (by decide), n8 3 (by decide)]; exact c7) (l7.imp id (fun ⟨L', e, q⟩ => ⟨L', e, q.keep (fun _ _ => rfl) (fun a ha => by rw [pRow_ne (by omega), n8 a (by omega)])⟩)) b7 k4 (by rw [pRow_ne (by decide), n8 33 (by decide)]; exact m7) (fun i i0 i1 => by rw [pRow_at]; exact nf i i0 i1) (fun z i i0 i1 => by rw [pRow_ne (by decide)]; exact hb8 z i i0 i1)
  refine vX11_findCheapest_118 0 r a b N 51 s.1 t ?_
  simp only [hF7.f0_10, hF7.f0_14, hK.k0, hK.k30, hK.k50, hK.k51, u6]
  refine ⟨trivial, trivial, fun z => ?_, fun z => ⟨by decide, trivial, by decide, trivial, by omega, fun E8 e8 => ?_⟩⟩
  · have q := fin E7 s (fun _ _ => rfl) (by rw [if_pos (show s.1 ≤ qOr c L mood N r a b k from z)]) (fun y i i0 i1 => by rw [o50]; exact hb y i i0 i1)
    exact q
  · have q := fin E8 (qOr c L mood N r a b k, k) (fun p hp => by rw [e8, pRow_ne hp]) (by rw [if_neg (show ¬ s.1 ≤ qOr c L mood N r a b k from z)]) (fun y i i0 i1 => by
      rw [e8, pRow_at]
      unfold pCpy
      rw [if_pos ⟨i0, by omega⟩, show (0 : Int) + (i - 0) = i by omega, o51]
      exact ho i i0 i1)
    exact q
theorem c_findCheapest_80 (hK : KS K) (hC : CInv c) (N4 : N ≤ 4) (hN : c 0 = N) (hlo : LwOk L) (m0 : 0 ≤ mood ∧ mood ≤ 9) (zr : 0 ≤ r ∧ r < 3) (za : 0 ≤ a ∧ a < 10) (zb : 0 ≤ b ∧ b < 10) (R : List Int) : ∀ (k t : Int) (s : Int × Int) (F E : Int → Int → Int), FS F → cz (E 3) = c → ((L = none ∧ F 30 3 = -1) ∨ ∃ L', L = some L' ∧ LawC K F E (F 30 3) L') → F 30 5 = 1000000000 → F 30 4 = 51 → E 33 7 = mood → (∀ x ∈ k :: R, x ∈ pl N) → chk N (k :: R) = true → (∀ i, 0 ≤ i → i < (N : Int) → E 51 i = dg N k i) → 0 ≤ t → t + (R.length + 1) ≤ 24 → (s.1 < 1000000000 → ∀ i, 0 ≤ i → i < (N : Int) → E 50 i = dg N s.2 i) →
    (∀ F' E', FrP F E F' E' → ((foldS (qOr c L mood N r a b) (k :: R) s).1 < 1000000000 → ∀ i, 0 ≤ i → i < (N : Int) → E' 50 i = dg N (foldS (qOr c L mood N r a b) (k :: R) s).2 i) → Q (some (0, (foldS (qOr c L mood N r a b) (k :: R) s).1)) (n, K, F', E')) →
    PW l G 31 mX11_findCheapest bg 80 [(0, (2, 0)), (1, (0, r)), (2, (0, a)), (3, (0, b)), (4, (0, N)), (5, (2, 51)), (6, (0, s.1)), (7, (0, 1)), (8, (0, t))] [] (n, K, F, E) Q := by
  induction R with
  | nil =>
    intro k t s F E hF hc hl h5 h4 h7 hp hk ho t0 t1 hb hQ
    refine c_turn hK hC N4 hN hlo m0 zr za zb hF hc hl h5 h4 h7 (hp k (List.mem_cons_self)) ho t0 (by simp only [List.length_nil] at t1; omega) hb fun F' E' p' _ _ _ _ _ _ hb' => ?_
    have a0 : nextA N (dg N k) = 0 := by
      unfold chk at hk
      simp at hk
      exact hk.1
    rw [a0]
    refine vX11_findCheapest_80 0 r a b N 51 _ 0 (t + 1) ⟨fun _ => hQ F' E' p' hb', fun _ => ⟨fun _ => hQ F' E' p' hb', fun z => absurd rfl z⟩⟩
  | cons k' R ih =>
    intro k t s F E hF hc hl h5 h4 h7 hp hk ho t0 t1 hb hQ
    refine c_turn hK hC N4 hN hlo m0 zr za zb hF hc hl h5 h4 h7 (hp k (List.mem_cons_self)) ho t0 (by simp only [List.length_cons] at t1; omega) hb fun F' E' p' c' l' b' o' m' n' hb' => ?_
    unfold chk at hk
    simp only [Bool.and_eq_true] at hk
    obtain ⟨⟨a1, a2⟩, a3⟩ := hk
    have a1 := of_decide_eq_true a1
    rw [a1]
    refine ih k' (t + 1) _ F' E' p'.2.1 c' l' b' o' m' (fun x hx => hp x (List.mem_cons_of_mem k hx)) a3 (fun i i0 i1 => ?_) (by omega) (by simp only [List.length_cons] at t1; omega) hb' fun F2 E2 p2 hb2 => hQ F2 E2 (p'.trans p2) hb2
    have q := List.all_eq_true.mp a2 i.toNat (List.mem_range.mpr (by omega))
    have q := of_decide_eq_true q
    rw [show ((i.toNat : Nat) : Int) = i by omega] at q
    rw [n' i i0 i1, q]
theorem c_findCheapest {F E : Int → Int → Int} (hK : KS K) (hF : FS F) (hc : cz (E 3) = c) (hC : CInv c) (N4 : N ≤ 4) (hN : c 0 = N) (hl : LwC K F E L) (hm : E 4 2 = mood) (m0 : 0 ≤ mood ∧ mood ≤ 9) (zr : 0 ≤ r ∧ r < 3) (za : 0 ≤ a ∧ a < 10) (zb : 0 ≤ b ∧ b < 10)
    (hQ : ∀ F' E', FrP F E F' E' → ((foldS (qOr c L mood N r a b) (pl N) (1000000000, 0)).1 < 1000000000 → ∀ i, 0 ≤ i → i < (N : Int) → E' 50 i = dg N (foldS (qOr c L mood N r a b) (pl N) (1000000000, 0)).2 i) → Q (some (0, (foldS (qOr c L mood N r a b) (pl N) (1000000000, 0)).1)) (n, K, F', E')) :
    PC l G 31 mX11_findCheapest bg [(2, 0), (0, r), (0, a), (0, b)] (n, K, F, E) Q := by
  obtain ⟨_, _, ln, ne, hd⟩ := rem_endsI N4
  have e0 : E 3 0 = N := by rw [← hN, ← hc, cz_in (by decide) (by decide)]
  refine vX11_findCheapest_0 0 r a b ?_
  simp only [hF.f0_0, hF.f0_15, hF.f1_0, hF.f2_0, hK.k0, hK.k1, hK.k2, hK.k3, e0]
  refine ⟨trivial, trivial, trivial, trivial, by decide, ?_⟩
  have lp : ∀ (w : Nat) (i : Int) (E1 : Int → Int → Int), i + w = N → 0 ≤ i → (∀ p, p ≠ 51 → E1 p = E p) → (∀ j, 0 ≤ j → j < i → E1 51 j = j) → PW l G 31 mX11_findCheapest bg 21 [(0, (2, 0)), (1, (0, r)), (2, (0, a)), (3, (0, b)), (4, (0, N)), (5, (2, 51)), (6, (0, i))] [] (n, K, F, E1) Q := by
    intro w
    induction w with
    | zero =>
      intro i E1 ei i0 n1 o1
      refine vX11_findCheapest_21 0 r a b N 51 i ⟨fun _ => ?_, fun z => absurd (by omega) z⟩
      have p1 : FrP F E F E1 := ⟨fun p h1 h2 h3 h4 h5 h6 h7 h8 h9 => n1 p h6, hF, fun _ _ _ _ => rfl⟩
      simp only [hF.f0_0, hF.f0_10, hK.k0, hK.k1]
      refine ⟨trivial, trivial, c_lawInForce hK hF (hl.keep p1) fun t ht => ?_⟩
      refine vX11_findCheapest_57 0 r a b N 51 1000000000 t 30 ?_
      simp only [hF.f0_0, hF.f1_1, hF.f30_1, hK.k0, hK.k1, hK.k4, hK.k30, hK.k33]
      refine ⟨trivial, trivial, trivial, by decide, trivial, fun F1 f1 F2 f2 F3 f3 => ⟨by decide, trivial, by decide, fun E4 e4 => ?_⟩⟩
      have w0 : FrW F E1 F3 E4 := by
        rw [f3, f2, f1, e4]
        exact ((((FrW.refl hF).up (by decide +kernel)).up (by decide +kernel)).up (by decide +kernel)).upE (by decide)
      have p4 := p1.trans w0.p
      have k33 : F3 30 3 = t := by rw [f3, f2, f1, pUp_k (by decide), pUp_k (by decide), pUp_s]
      have e51 : E4 51 = E1 51 := by rw [e4, pUp_an (by decide)]
      match hpl : pl N, ne with
      | k :: R, _ =>
        rw [hpl] at ln hd hQ
        refine c_findCheapest_80 (c := c) (L := L) (mood := mood) (N := N) hK hC N4 hN hl.2 m0 zr za zb R k 0 (1000000000, 0) F3 E4 w0.2.1 (by rw [p4.1 3 (by decide) (by decide) (by decide) (by decide) (by decide) (by decide) (by decide) (by decide) (by decide)]; exact hc) ?_ (by rw [f3, f2, pUp_k (by decide), pUp_s]) (by rw [f3, pUp_s]) (by rw [e4, pUp_s, n1 4 (by decide)]; exact hm) (fun x hx => by rw [hpl]; exact hx) (by rw [← hpl]; exact chk_plI N4) (fun j j0 j1 => ?_) (by decide) (by simp only [List.length_cons] at ln; omega) (fun z => absurd z (by decide)) fun F' E' p' hb' => hQ F' E' (p4.trans p') hb'
        · rw [k33]
          exact ht.imp id (fun ⟨L', e, q⟩ => ⟨L', e, q.keep (fun a ha => funext fun k => w0.2.2 a k (by omega)) (fun a ha => by rw [e4, pUp_an (by omega)])⟩)
        · rw [e51, o1 j j0 (by omega)]
          exact (hd j j0 j1).symm
    | succ w ih =>
      intro i E1 ei i0 n1 o1
      refine vX11_findCheapest_21 0 r a b N 51 i ?_
      rw [hK.k51]
      refine ⟨fun z => absurd z (by omega), fun _ => ⟨by decide, rfl, by omega, fun E2 e2 => ⟨by omega, ?_⟩⟩⟩
      refine ih (i + 1) E2 (by omega) (by omega) (fun p hp => by rw [e2, pUp_an hp]; exact n1 p hp) (fun j j0 j1 => ?_)
      rw [e2]
      by_cases q : j = i
      · rw [q, pUp_s]
      · rw [pUp_k q]; exact o1 j j0 (by omega)
  exact lp N 0 E (by omega) (by decide) (fun _ _ => rfl) (fun j j0 j1 => absurd j1 (by omega))
end C
